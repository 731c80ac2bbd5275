/-! rules of runs, methods 48 to 104 -/
theorem am_cc49 : am_co am_P 49 = am_lk am_rw49 ∧ am_hl am_P 49 = [] ∧ am_rtag (am_re am_P 49) = 0 := ⟨rfl, rfl, rfl⟩
set_option maxRecDepth 100000 in
theorem am_k49_0 {e : ak_X3} {d : Nat} {ρ : List Nat} {h : ak_S} {Q : ak_S → Prop} {X : Nat → ak_S → Prop} {x1 x2 x3 x4 x5 x6 : Int} (w :
  (h.1 69 7 < 60 →
    (0 ≤ h.1 69 7 ∧ h.1 69 7 < (60 : Int)) ∧ (0 ≤ h.1 69 7 ∧ h.1 69 7 < (60 : Int)) ∧ (0 ≤ h.1 69 7 ∧ h.1 69 7 < (60 : Int)) ∧ (0 ≤ h.1 69 7 ∧ h.1 69 7 < (60 : Int)) ∧ (0 ≤ h.1 69 7 ∧ h.1 69 7 < (60 : Int)) ∧ (0 ≤ h.1 69 7 ∧ h.1 69 7 < (60 : Int)) ∧ ((0 ≤ h.1 69 7 ∧ h.1 69 7 < (60 : Int)) ∧ (x6 = 0 ∨ x6 = 1)) ∧ (x6 = 0 →
      Q ((am_up (am_up (am_up (am_up (am_up (am_up (am_up (am_up (am_up h.1 70 (h.1 69 7).toNat x1) 71 (h.1 69 7).toNat x2) 72 (h.1 69 7).toNat x3) 73 (h.1 69 7).toNat 0) 74 (h.1 69 7).toNat x4) 75 (h.1 69 7).toNat x5) 76 (h.1 69 7).toNat x6) 69 8 (am_w32 ((h.1 69 8) + 0))) 69 7 (am_w32 ((h.1 69 7) + 1))), h.2))
    ∧ (x6 ≠ 0 →
      Q ((am_up (am_up (am_up (am_up (am_up (am_up (am_up (am_up (am_up h.1 70 (h.1 69 7).toNat x1) 71 (h.1 69 7).toNat x2) 72 (h.1 69 7).toNat x3) 73 (h.1 69 7).toNat 0) 74 (h.1 69 7).toNat x4) 75 (h.1 69 7).toNat x5) 76 (h.1 69 7).toNat x6) 69 8 (am_w32 ((h.1 69 8) + 1))) 69 7 (am_w32 ((h.1 69 7) + 1))), h.2)))
  ∧ (60 ≤ h.1 69 7 →
    Q h)) :
  ak_W0 e 0 d 49 ρ 0 [some (am_r 69), some (am_i x1), some (am_i x2), some (am_i x3), some (am_i x4), some (am_i x5), some (am_i x6)] [] h (ak_qv Q X) := ak_k_ok am_cc49 400 [] w
theorem am_cc50 : am_co am_P 50 = am_lk am_rw50 ∧ am_hl am_P 50 = [] ∧ am_rtag (am_re am_P 50) = 0 := ⟨rfl, rfl, rfl⟩
set_option maxRecDepth 100000 in
theorem am_k50_0 {e : ak_X3} {d : Nat} {ρ : List Nat} {h : ak_S} {Q : ak_S → Prop} {X : Nat → ak_S → Prop} (w :
  (h.1 69 7 ≤ 0 →
    Q h)
  ∧ (0 < h.1 69 7 →
    (0 ≤ am_w32 ((h.1 69 7) - 1) ∧ am_w32 ((h.1 69 7) - 1) < (60 : Int)) ∧ (h.1 76 (am_w32 ((h.1 69 7) - 1)).toNat = 0 →
      Q ((am_up (am_up h.1 69 7 (am_w32 ((h.1 69 7) - 1))) 69 8 (am_w32 ((h.1 69 8) - 0))), h.2))
    ∧ (h.1 76 (am_w32 ((h.1 69 7) - 1)).toNat ≠ 0 →
      Q ((am_up (am_up h.1 69 7 (am_w32 ((h.1 69 7) - 1))) 69 8 (am_w32 ((h.1 69 8) - 1))), h.2)))) :
  ak_W0 e 0 d 50 ρ 0 [some (am_r 69)] [] h (ak_qv Q X) := ak_k_ok am_cc50 400 [] w
theorem am_cc52 : am_co am_P 52 = am_lk am_rw52 ∧ am_hl am_P 52 = [] ∧ am_rtag (am_re am_P 52) = 0 := ⟨rfl, rfl, rfl⟩
set_option maxRecDepth 100000 in
theorem am_k52_0 {e : ak_X3} {d : Nat} {ρ : List Nat} {h : ak_S} {Q : ak_S → Prop} {X : Nat → ak_S → Prop} (w :
  Q ((am_up (am_up h.1 77 4 0) 77 10 0), h.2)) :
  ak_W0 e 0 d 52 ρ 0 [some (am_r 77)] [] h (ak_qv Q X) := ak_k_ok am_cc52 400 [] w
theorem am_cc53 : am_co am_P 53 = am_lk am_rw53 ∧ am_hl am_P 53 = [] ∧ am_rtag (am_re am_P 53) = 0 := ⟨rfl, rfl, rfl⟩
set_option maxRecDepth 100000 in
theorem am_k53_0 {e : ak_X3} {d : Nat} {ρ : List Nat} {h : ak_S} {Q : ak_S → Prop} {X : Nat → ak_S → Prop} {x1 x2 : Int} (w :
  (1260 ≤ h.1 77 4 →
    Q h)
  ∧ (h.1 77 4 < 1260 →
    (0 ≤ h.1 77 4 ∧ h.1 77 4 < (1260 : Int)) ∧ (0 ≤ h.1 77 4 ∧ h.1 77 4 < (1260 : Int)) ∧ (0 ≤ h.1 77 4 ∧ h.1 77 4 < (1260 : Int)) ∧ (0 ≤ h.1 77 4 ∧ h.1 77 4 < (1260 : Int)) ∧ Q ((am_up (am_up (am_up (am_up (am_up h.1 78 (h.1 77 4).toNat 0) 79 (h.1 77 4).toNat x1) 80 (h.1 77 4).toNat x2) 81 (h.1 77 4).toNat ((-1))) 77 4 (am_w32 ((h.1 77 4) + 1))), h.2))) :
  ak_W0 e 0 d 53 ρ 0 [some (am_r 77), some (am_i x1), some (am_i x2)] [] h (ak_qv Q X) := ak_k_ok am_cc53 400 [] w
theorem am_cc54 : am_co am_P 54 = am_lk am_rw54 ∧ am_hl am_P 54 = [] ∧ am_rtag (am_re am_P 54) = 0 := ⟨rfl, rfl, rfl⟩
set_option maxRecDepth 100000 in
theorem am_k54_0 {e : ak_X3} {d : Nat} {ρ : List Nat} {h : ak_S} {Q : ak_S → Prop} {X : Nat → ak_S → Prop} {x1 x2 x3 x4 x6 : Int} (w :
  Q ((am_up (am_up (am_up (am_up h.1 77 10 x1) 77 11 x2) 77 12 x3) 77 14 x6), (am_up h.2.1 77 13 x4), h.2.2)) :
  ak_W0 e 0 d 54 ρ 0 [some (am_r 77), some (am_i x1), some (am_i x2), some (am_i x3), some (am_l x4), none, some (am_i x6)] [] h (ak_qv Q X) := ak_k_ok am_cc54 400 [] w
theorem am_cc55 : am_co am_P 55 = am_lk am_rw55 ∧ am_hl am_P 55 = [] ∧ am_rtag (am_re am_P 55) = 0 := ⟨rfl, rfl, rfl⟩
set_option maxRecDepth 100000 in
theorem am_k55_0 {e : ak_X3} {d : Nat} {ρ : List Nat} {h : ak_S} {Q : ak_S → Prop} {X : Nat → ak_S → Prop} (w :
  (am_w32 ((h.1 77 4) - 1) < 0 →
    Q h)
  ∧ (0 ≤ am_w32 ((h.1 77 4) - 1) →
    (0 ≤ am_w32 ((h.1 77 4) - 1) ∧ am_w32 ((h.1 77 4) - 1) < (1260 : Int)) ∧ (0 ≤ am_w32 ((h.1 77 4) - 1) ∧ am_w32 ((h.1 77 4) - 1) < (1260 : Int)) ∧ (0 ≤ am_w32 ((h.1 77 4) - 1) ∧ am_w32 ((h.1 77 4) - 1) < (1260 : Int)) ∧ (0 ≤ am_w32 ((h.1 77 4) - 1) ∧ am_w32 ((h.1 77 4) - 1) < (1260 : Int)) ∧ (0 ≤ am_w32 ((h.1 77 4) - 1) ∧ am_w32 ((h.1 77 4) - 1) < (1260 : Int)) ∧ (0 ≤ am_w32 ((h.1 77 4) - 1) ∧ am_w32 ((h.1 77 4) - 1) < (1260 : Int)) ∧ Q ((am_up (am_up (am_up (am_up (am_up (am_up h.1 78 (am_w32 ((h.1 77 4) - 1)).toNat 2) 82 (am_w32 ((h.1 77 4) - 1)).toNat (h.1 77 10)) 83 (am_w32 ((h.1 77 4) - 1)).toNat (h.1 77 11)) 84 (am_w32 ((h.1 77 4) - 1)).toNat (h.1 77 12)) 86 (am_w32 ((h.1 77 4) - 1)).toNat (h.1 77 14)) 77 10 0), (am_up h.2.1 85 (am_w32 ((h.1 77 4) - 1)).toNat (h.2.1 77 13)), h.2.2))) :
  ak_W0 e 0 d 55 ρ 0 [some (am_r 77), none] [] h (ak_qv Q X) := ak_k_ok am_cc55 400 [] w
theorem am_cc56 : am_co am_P 56 = am_lk am_rw56 ∧ am_hl am_P 56 = [] ∧ am_rtag (am_re am_P 56) = 0 := ⟨rfl, rfl, rfl⟩
set_option maxRecDepth 100000 in
theorem am_k56_0 {e : ak_X3} {d : Nat} {ρ : List Nat} {h : ak_S} {Q : ak_S → Prop} {X : Nat → ak_S → Prop} (w :
  (am_w32 ((h.1 77 4) - 1) < 0 →
    Q h)
  ∧ (0 ≤ am_w32 ((h.1 77 4) - 1) →
    (0 ≤ am_w32 ((h.1 77 4) - 1) ∧ am_w32 ((h.1 77 4) - 1) < (1260 : Int)) ∧ (0 ≤ am_w32 ((h.1 77 4) - 1) ∧ am_w32 ((h.1 77 4) - 1) < (1260 : Int)) ∧ (0 ≤ am_w32 ((h.1 77 4) - 1) ∧ am_w32 ((h.1 77 4) - 1) < (1260 : Int)) ∧ (0 ≤ am_w32 ((h.1 77 4) - 1) ∧ am_w32 ((h.1 77 4) - 1) < (1260 : Int)) ∧ (0 ≤ am_w32 ((h.1 77 4) - 1) ∧ am_w32 ((h.1 77 4) - 1) < (1260 : Int)) ∧ ak_MV e 0 d ρ 54 [am_r 77, am_i (h.1 82 (am_w32 ((h.1 77 4) - 1)).toNat), am_i (h.1 83 (am_w32 ((h.1 77 4) - 1)).toNat), am_i (h.1 84 (am_w32 ((h.1 77 4) - 1)).toNat), am_l (h.2.1 85 (am_w32 ((h.1 77 4) - 1)).toNat), am_i (h.1 86 (am_w32 ((h.1 77 4) - 1)).toNat)] h (fun h1 =>
      Q ((am_up h1.1 77 4 (am_w32 ((h1.1 77 4) - 1))), h1.2)) (fun _ _ => False))) :
  ak_W0 e 0 d 56 ρ 0 [some (am_r 77), none] [] h (ak_qv Q X) := ak_k_ok am_cc56 400 [] w
theorem am_cc57 : am_co am_P 57 = am_lk am_rw57 ∧ am_hl am_P 57 = [] ∧ am_rtag (am_re am_P 57) = 1 := ⟨rfl, rfl, rfl⟩
set_option maxRecDepth 100000 in
theorem am_k57_0 {e : ak_X3} {d : Nat} {ρ : List Nat} {h : ak_S} {Q : Int → ak_S → Prop} {X : Nat → ak_S → Prop} (w :
  ak_W0 e 0 d 57 ρ 7 [some (am_r 77), some (am_i (am_w32 ((h.1 77 4) - 1)))] [] h (ak_qi Q X)) :
  ak_W0 e 0 d 57 ρ 0 [some (am_r 77), none] [] h (ak_qi Q X) := ak_k_ok am_cc57 400 [(7, [true, true])] w
set_option maxRecDepth 100000 in
theorem am_k57_7 {e : ak_X3} {d : Nat} {ρ : List Nat} {h : ak_S} {Q : Int → ak_S → Prop} {X : Nat → ak_S → Prop} {x1 : Int} (w :
  (x1 < 0 →
    Q ((-1)) h)
  ∧ (0 ≤ x1 →
    (0 ≤ x1 ∧ x1 < (1260 : Int)) ∧ (h.1 78 x1.toNat ≠ 1 →
      ak_W0 e 0 d 57 ρ 7 [some (am_r 77), some (am_i (am_w32 (x1 + (-1))))] [] h (ak_qi Q X))
    ∧ (h.1 78 x1.toNat = 1 →
      (0 ≤ x1 ∧ x1 < (1260 : Int)) ∧ Q (h.1 81 x1.toNat) h))) :
  ak_W0 e 0 d 57 ρ 7 [some (am_r 77), some (am_i x1)] [] h (ak_qi Q X) := ak_k_ok am_cc57 400 [(7, [true, true])] w
theorem am_cc59 : am_co am_P 59 = am_lk am_rw59 ∧ am_hl am_P 59 = [] ∧ am_rtag (am_re am_P 59) = 0 := ⟨rfl, rfl, rfl⟩
set_option maxRecDepth 100000 in
theorem am_k59_0 {e : ak_X3} {d : Nat} {ρ : List Nat} {h : ak_S} {Q : ak_S → Prop} {X : Nat → ak_S → Prop} (w :
  ak_MV e 0 d ρ 60 [am_r 63] h (fun h1 =>
    ak_MV e 0 d ρ 363 [am_r 68, am_i 0] h1 (fun h2 =>
      Q h2) (fun _ _ => False)) (fun _ _ => False)) :
  ak_W0 e 0 d 59 ρ 0 [some (am_r 63)] [] h (ak_qv Q X) := ak_k_ok am_cc59 400 [] w
theorem am_cc60 : am_co am_P 60 = am_lk am_rw60 ∧ am_hl am_P 60 = [] ∧ am_rtag (am_re am_P 60) = 0 := ⟨rfl, rfl, rfl⟩
set_option maxRecDepth 100000 in
theorem am_k60_0 {e : ak_X3} {d : Nat} {ρ : List Nat} {h : ak_S} {Q : ak_S → Prop} {X : Nat → ak_S → Prop} (w :
  ak_MV e 0 d ρ 366 [am_r 64, am_l 0] h (fun h1 =>
    (0 ≤ (3 : Int) ∧ (3 : Int) < (7 : Int)) ∧ Q (h1.1, (am_up h1.2.1 64 3 ((-1))), h1.2.2)) (fun _ _ => False)) :
  ak_W0 e 0 d 60 ρ 0 [some (am_r 63)] [] h (ak_qv Q X) := ak_k_ok am_cc60 400 [] w
theorem am_cc61 : am_co am_P 61 = am_lk am_rw61 ∧ am_hl am_P 61 = [] ∧ am_rtag (am_re am_P 61) = 1 := ⟨rfl, rfl, rfl⟩
set_option maxRecDepth 100000 in
theorem am_k61_0 {e : ak_X3} {d : Nat} {ρ : List Nat} {h : ak_S} {Q : Int → ak_S → Prop} {X : Nat → ak_S → Prop} (w :
  (0 ≤ (5 : Int) ∧ (5 : Int) < (7 : Int)) ∧ Q (am_w32 ((if 300 < h.2.1 64 5 then 300 else h.2.1 64 5))) h) :
  ak_W0 e 0 d 61 ρ 0 [some (am_r 63)] [] h (ak_qi Q X) := ak_k_ok am_cc61 400 [] w
theorem am_cc62 : am_co am_P 62 = am_lk am_rw62 ∧ am_hl am_P 62 = [] ∧ am_rtag (am_re am_P 62) = 1 := ⟨rfl, rfl, rfl⟩
set_option maxRecDepth 100000 in
theorem am_k62_0 {e : ak_X3} {d : Nat} {ρ : List Nat} {h : ak_S} {Q : Int → ak_S → Prop} {X : Nat → ak_S → Prop} (w :
  (0 ≤ (6 : Int) ∧ (6 : Int) < (7 : Int)) ∧ Q (am_w32 ((if 300 < h.2.1 64 6 then 300 else h.2.1 64 6))) h) :
  ak_W0 e 0 d 62 ρ 0 [some (am_r 63)] [] h (ak_qi Q X) := ak_k_ok am_cc62 400 [] w
theorem am_cc63 : am_co am_P 63 = am_lk am_rw63 ∧ am_hl am_P 63 = [] ∧ am_rtag (am_re am_P 63) = 1 := ⟨rfl, rfl, rfl⟩
set_option maxRecDepth 100000 in
theorem am_k63_0 {e : ak_X3} {d : Nat} {ρ : List Nat} {h : ak_S} {Q : Int → ak_S → Prop} {X : Nat → ak_S → Prop} (w :
  (0 ≤ (4 : Int) ∧ (4 : Int) < (7 : Int)) ∧ Q (am_w32 ((if 64 < h.2.1 64 4 then 64 else h.2.1 64 4))) h) :
  ak_W0 e 0 d 63 ρ 0 [some (am_r 63)] [] h (ak_qi Q X) := ak_k_ok am_cc63 400 [] w
theorem am_cc64 : am_co am_P 64 = am_lk am_rw64 ∧ am_hl am_P 64 = [] ∧ am_rtag (am_re am_P 64) = 0 := ⟨rfl, rfl, rfl⟩
set_option maxRecDepth 100000 in
theorem am_k64_0 {e : ak_X3} {d : Nat} {ρ : List Nat} {h : ak_S} {Q : ak_S → Prop} {X : Nat → ak_S → Prop} {x1 x2 : Int} (w :
  (0 ≤ (0 : Int) ∧ (0 : Int) < (7 : Int)) ∧ (0 ≤ (1 : Int) ∧ (1 : Int) < (7 : Int)) ∧ Q (h.1, (am_up (am_up h.2.1 64 0 x1) 64 1 x2), h.2.2)) :
  ak_W0 e 0 d 64 ρ 0 [some (am_r 63), some (am_i x1), some (am_l x2), none] [] h (ak_qv Q X) := ak_k_ok am_cc64 400 [] w
theorem am_cc65 : am_co am_P 65 = am_lk am_rw65 ∧ am_hl am_P 65 = [] ∧ am_rtag (am_re am_P 65) = 0 := ⟨rfl, rfl, rfl⟩
set_option maxRecDepth 100000 in
theorem am_k65_0 {e : ak_X3} {d : Nat} {ρ : List Nat} {h : ak_S} {Q : ak_S → Prop} {X : Nat → ak_S → Prop} {x1 x2 : Int} (w :
  (0 ≤ (5 : Int) ∧ (5 : Int) < (7 : Int)) ∧ (0 ≤ am_lsign (h.2.1 64 5) 300 →
    (0 ≤ (5 : Int) ∧ (5 : Int) < (7 : Int)) ∧ (0 ≤ (5 : Int) ∧ (5 : Int) < (7 : Int)) ∧ Q (h.1, (am_up h.2.1 64 5 (am_w64 ((h.2.1 64 5) + 1))), h.2.2))
  ∧ (am_lsign (h.2.1 64 5) 300 < 0 →
    (0 ≤ (5 : Int) ∧ (5 : Int) < (7 : Int)) ∧ (0 ≤ am_w32 ((am_w32 (h.2.1 64 5)) * 2) ∧ am_w32 ((am_w32 (h.2.1 64 5)) * 2) < (600 : Int)) ∧ (0 ≤ am_w32 ((am_w32 ((am_w32 (h.2.1 64 5)) * 2)) + 1) ∧ am_w32 ((am_w32 ((am_w32 (h.2.1 64 5)) * 2)) + 1) < (600 : Int)) ∧ (0 ≤ (5 : Int) ∧ (5 : Int) < (7 : Int)) ∧ (0 ≤ (5 : Int) ∧ (5 : Int) < (7 : Int)) ∧ Q (h.1, (am_up (am_up (am_up h.2.1 65 (am_w32 ((am_w32 (h.2.1 64 5)) * 2)).toNat x1) 65 (am_w32 ((am_w32 ((am_w32 (h.2.1 64 5)) * 2)) + 1)).toNat x2) 64 5 (am_w64 ((h.2.1 64 5) + 1))), h.2.2))) :
  ak_W0 e 0 d 65 ρ 0 [some (am_r 63), some (am_i x1), some (am_l x2), none, none] [] h (ak_qv Q X) := ak_k_ok am_cc65 400 [] w
theorem am_cc66 : am_co am_P 66 = am_lk am_rw66 ∧ am_hl am_P 66 = [] ∧ am_rtag (am_re am_P 66) = 0 := ⟨rfl, rfl, rfl⟩
set_option maxRecDepth 100000 in
theorem am_k66_0 {e : ak_X3} {d : Nat} {ρ : List Nat} {h : ak_S} {Q : ak_S → Prop} {X : Nat → ak_S → Prop} {x1 x2 x3 x5 : Int} (w :
  (0 ≤ (6 : Int) ∧ (6 : Int) < (7 : Int)) ∧ (0 ≤ am_lsign (h.2.1 64 6) 300 →
    ak_W0 e 0 d 66 ρ 68 [some (am_r 63), some (am_i x1), none, none, none, none, none] [] h (ak_qv Q X))
  ∧ (am_lsign (h.2.1 64 6) 300 < 0 →
    (0 ≤ (6 : Int) ∧ (6 : Int) < (7 : Int)) ∧ (0 ≤ am_w32 ((am_w32 (h.2.1 64 6)) * 4) ∧ am_w32 ((am_w32 (h.2.1 64 6)) * 4) < (1200 : Int)) ∧ (0 ≤ am_w32 ((am_w32 ((am_w32 (h.2.1 64 6)) * 4)) + 1) ∧ am_w32 ((am_w32 ((am_w32 (h.2.1 64 6)) * 4)) + 1) < (1200 : Int)) ∧ (0 ≤ am_w32 ((am_w32 ((am_w32 (h.2.1 64 6)) * 4)) + 2) ∧ am_w32 ((am_w32 ((am_w32 (h.2.1 64 6)) * 4)) + 2) < (1200 : Int)) ∧ (0 ≤ am_w32 ((am_w32 ((am_w32 (h.2.1 64 6)) * 4)) + 3) ∧ am_w32 ((am_w32 ((am_w32 (h.2.1 64 6)) * 4)) + 3) < (1200 : Int)) ∧ ak_W0 e 0 d 66 ρ 68 [some (am_r 63), some (am_i x1), none, none, none, none, none] [] (h.1, (am_up (am_up (am_up (am_up h.2.1 66 (am_w32 ((am_w32 (h.2.1 64 6)) * 4)).toNat x1) 66 (am_w32 ((am_w32 ((am_w32 (h.2.1 64 6)) * 4)) + 1)).toNat x2) 66 (am_w32 ((am_w32 ((am_w32 (h.2.1 64 6)) * 4)) + 2)).toNat x3) 66 (am_w32 ((am_w32 ((am_w32 (h.2.1 64 6)) * 4)) + 3)).toNat x5), h.2.2) (ak_qv Q X))) :
  ak_W0 e 0 d 66 ρ 0 [some (am_r 63), some (am_i x1), some (am_i x2), some (am_l x3), none, some (am_i x5), none] [] h (ak_qv Q X) := ak_k_ok am_cc66 400 [(68, [true, true, false, false, false, false, false])] w
set_option maxRecDepth 100000 in
theorem am_k66_68 {e : ak_X3} {d : Nat} {ρ : List Nat} {h : ak_S} {Q : ak_S → Prop} {X : Nat → ak_S → Prop} {x1 : Int} (w :
  (0 ≤ (6 : Int) ∧ (6 : Int) < (7 : Int)) ∧ (0 ≤ (6 : Int) ∧ (6 : Int) < (7 : Int)) ∧ (0 ≤ x1 ∧ x1 < (40 : Int)) ∧ (0 ≤ x1 ∧ x1 < (40 : Int)) ∧ Q ((am_up h.1 68 x1.toNat (am_w32 ((h.1 68 x1.toNat) + 1))), (am_up h.2.1 64 6 (am_w64 ((h.2.1 64 6) + 1))), h.2.2)) :
  ak_W0 e 0 d 66 ρ 68 [some (am_r 63), some (am_i x1), none, none, none, none, none] [] h (ak_qv Q X) := ak_k_ok am_cc66 400 [(68, [true, true, false, false, false, false, false])] w
theorem am_cc67 : am_co am_P 67 = am_lk am_rw67 ∧ am_hl am_P 67 = [] ∧ am_rtag (am_re am_P 67) = 1 := ⟨rfl, rfl, rfl⟩
set_option maxRecDepth 100000 in
theorem am_k67_0 {e : ak_X3} {d : Nat} {ρ : List Nat} {h : ak_S} {Q : Int → ak_S → Prop} {X : Nat → ak_S → Prop} {x1 x2 x3 x5 x6 x7 : Int} (w :
  (0 ≤ (4 : Int) ∧ (4 : Int) < (7 : Int)) ∧ (0 ≤ am_lsign (h.2.1 64 4) 64 →
    ak_W0 e 0 d 67 ρ 91 [some (am_r 63), none, none, none, none, none, none, none, none] [] h (ak_qi Q X))
  ∧ (am_lsign (h.2.1 64 4) 64 < 0 →
    (0 ≤ (4 : Int) ∧ (4 : Int) < (7 : Int)) ∧ (0 ≤ am_w32 ((am_w32 (h.2.1 64 4)) * 6) ∧ am_w32 ((am_w32 (h.2.1 64 4)) * 6) < (384 : Int)) ∧ (0 ≤ am_w32 ((am_w32 ((am_w32 (h.2.1 64 4)) * 6)) + 1) ∧ am_w32 ((am_w32 ((am_w32 (h.2.1 64 4)) * 6)) + 1) < (384 : Int)) ∧ (0 ≤ am_w32 ((am_w32 ((am_w32 (h.2.1 64 4)) * 6)) + 2) ∧ am_w32 ((am_w32 ((am_w32 (h.2.1 64 4)) * 6)) + 2) < (384 : Int)) ∧ (0 ≤ am_w32 ((am_w32 ((am_w32 (h.2.1 64 4)) * 6)) + 3) ∧ am_w32 ((am_w32 ((am_w32 (h.2.1 64 4)) * 6)) + 3) < (384 : Int)) ∧ (0 ≤ am_w32 ((am_w32 ((am_w32 (h.2.1 64 4)) * 6)) + 4) ∧ am_w32 ((am_w32 ((am_w32 (h.2.1 64 4)) * 6)) + 4) < (384 : Int)) ∧ (0 ≤ am_w32 ((am_w32 ((am_w32 (h.2.1 64 4)) * 6)) + 5) ∧ am_w32 ((am_w32 ((am_w32 (h.2.1 64 4)) * 6)) + 5) < (384 : Int)) ∧ ak_W0 e 0 d 67 ρ 91 [some (am_r 63), none, none, none, none, none, none, none, none] [] (h.1, (am_up (am_up (am_up (am_up (am_up (am_up h.2.1 67 (am_w32 ((am_w32 (h.2.1 64 4)) * 6)).toNat x1) 67 (am_w32 ((am_w32 ((am_w32 (h.2.1 64 4)) * 6)) + 1)).toNat x2) 67 (am_w32 ((am_w32 ((am_w32 (h.2.1 64 4)) * 6)) + 2)).toNat x3) 67 (am_w32 ((am_w32 ((am_w32 (h.2.1 64 4)) * 6)) + 3)).toNat x5) 67 (am_w32 ((am_w32 ((am_w32 (h.2.1 64 4)) * 6)) + 4)).toNat x6) 67 (am_w32 ((am_w32 ((am_w32 (h.2.1 64 4)) * 6)) + 5)).toNat x7), h.2.2) (ak_qi Q X))) :
  ak_W0 e 0 d 67 ρ 0 [some (am_r 63), some (am_i x1), some (am_i x2), some (am_l x3), none, some (am_i x5), some (am_i x6), some (am_i x7), none] [] h (ak_qi Q X) := ak_k_ok am_cc67 400 [(91, [true, false, false, false, false, false, false, false, false])] w
set_option maxRecDepth 100000 in
theorem am_k67_91 {e : ak_X3} {d : Nat} {ρ : List Nat} {h : ak_S} {Q : Int → ak_S → Prop} {X : Nat → ak_S → Prop} (w :
  (0 ≤ (4 : Int) ∧ (4 : Int) < (7 : Int)) ∧ (0 ≤ (4 : Int) ∧ (4 : Int) < (7 : Int)) ∧ (0 ≤ (4 : Int) ∧ (4 : Int) < (7 : Int)) ∧ Q (am_w32 ((am_w32 (am_w64 ((h.2.1 64 4) + 1))) - 1)) (h.1, (am_up h.2.1 64 4 (am_w64 ((h.2.1 64 4) + 1))), h.2.2)) :
  ak_W0 e 0 d 67 ρ 91 [some (am_r 63), none, none, none, none, none, none, none, none] [] h (ak_qi Q X) := ak_k_ok am_cc67 400 [(91, [true, false, false, false, false, false, false, false, false])] w
theorem am_cc70 : am_co am_P 70 = am_lk am_rw70 ∧ am_hl am_P 70 = [] ∧ am_rtag (am_re am_P 70) = 1 := ⟨rfl, rfl, rfl⟩
set_option maxRecDepth 100000 in
theorem am_k70_0 {e : ak_X3} {d : Nat} {ρ1 ρ2 : Nat} {h : ak_S} {Q : Int → ak_S → Prop} {X : Nat → ak_S → Prop} {u : Nat} (hu : u = 0 ∨ u = 1) {x1 x2 x4 : Int} (w :
  ak_MV e 0 d [ak_T u, ρ1, ρ2, ak_T u, ak_T u + 1] 60 [am_r 63] h (fun h1 =>
    ak_MV e 0 d [ak_T u, ρ1, ρ2, ak_T u, ak_T u + 1] 52 [am_r 77] h1 (fun h2 =>
      ak_MV e 0 d [ak_T u, ρ1, ρ2, ak_T u, ak_T u + 1] 73 [am_r 32, am_i 2, am_l 0] ((am_up (am_up h2.1 32 10 0) 32 11 ((-1))), h2.2) (fun h3 =>
        ak_MV e 0 d [ak_T u, ρ1, ρ2, ak_T u, ak_T u + 1] 73 [am_r 32, am_i 1, am_l x2] h3 (fun h4 =>
          ak_MV e 0 d [ak_T u, ρ1, ρ2, ak_T u, ak_T u + 1] 73 [am_r 32, am_i 1, am_l x4] h4 (fun h5 =>
            ((0 : Int) = 0 ∨ (0 : Int) = 1) ∧ ak_MV e 0 d [ak_T u, ρ1, ρ2, ak_T u, ak_T u + 1] 93 [am_r 32, am_i x1] ((am_up (am_up (am_up (am_up h5.1 32 13 2) 32 14 0) 32 15 ((-1))) 32 16 0), h5.2) (fun h6 =>
              ak_W0 e 0 d 70 [ak_T u, ρ1, ρ2, ak_T u, ak_T u + 1] 71 [some (am_r 32), none, none, none, none, none, some (am_i 0)] [] h6 (ak_qi Q X)) (fun _ _ => False)) (fun _ _ => False)) (fun _ _ => False)) (fun _ _ => False)) (fun _ _ => False)) (fun _ _ => False)) :
  ak_W0 e 0 d 70 [ak_T u, ρ1, ρ2, ak_T u, ak_T u + 1] 0 [some (am_r 32), some (am_i x1), some (am_l x2), none, some (am_l x4), none, none] [] h (ak_qi Q X) := by
  rcases hu with rfl | rfl
  · exact ak_k_ok am_cc70 400 [(71, [true, false, false, false, false, false, true])] w
  · exact ak_k_ok am_cc70 400 [(71, [true, false, false, false, false, false, true])] w
set_option maxRecDepth 100000 in
theorem am_k70_71 {e : ak_X3} {d : Nat} {ρ1 ρ2 : Nat} {h : ak_S} {Q : Int → ak_S → Prop} {X : Nat → ak_S → Prop} {u : Nat} (hu : u = 0 ∨ u = 1) {x6 : Int} (w :
  (100000000 ≤ x6 →
    ak_MV e 0 d [ak_T u, ρ1, ρ2, ak_T u, ak_T u + 1] 104 [am_r 32, am_i 0] h (fun h1 =>
      (0 ≤ h1.1 32 11 →
        Q (h1.1 32 11) h1)
      ∧ (h1.1 32 11 < 0 →
        Q 2 h1)) (fun _ _ => False))
  ∧ (x6 < 100000000 →
    (0 ≤ h.1 32 11 →
      ak_MV e 0 d [ak_T u, ρ1, ρ2, ak_T u, ak_T u + 1] 104 [am_r 32, am_i 0] h (fun h2 =>
        (0 ≤ h2.1 32 11 →
          Q (h2.1 32 11) h2)
        ∧ (h2.1 32 11 < 0 →
          Q 2 h2)) (fun _ _ => False))
    ∧ (h.1 32 11 < 0 →
      ak_MV e 0 d [ak_T u, ρ1, ρ2, ak_T u, ak_T u + 1] 72 [am_r 32] h (fun h3 =>
        (h3.1 77 10 = 0 →
          ak_W0 e 0 d 70 [ak_T u, ρ1, ρ2, ak_T u, ak_T u + 1] 71 [some (am_r 32), none, none, none, none, none, some (am_i (am_w32 (x6 + 1)))] [] h3 (ak_qi Q X))
        ∧ (h3.1 77 10 ≠ 0 →
          ak_MV e 0 d [ak_T u, ρ1, ρ2, ak_T u, ak_T u + 1] 100 [am_r 32] h3 (fun h4 =>
            ak_W0 e 0 d 70 [ak_T u, ρ1, ρ2, ak_T u, ak_T u + 1] 71 [some (am_r 32), none, none, none, none, none, some (am_i (am_w32 (x6 + 1)))] [] h4 (ak_qi Q X)) (fun _ _ => False))) (fun _ _ => False)))) :
  ak_W0 e 0 d 70 [ak_T u, ρ1, ρ2, ak_T u, ak_T u + 1] 71 [some (am_r 32), none, none, none, none, none, some (am_i x6)] [] h (ak_qi Q X) := by
  rcases hu with rfl | rfl
  · exact ak_k_ok am_cc70 400 [(71, [true, false, false, false, false, false, true])] w
  · exact ak_k_ok am_cc70 400 [(71, [true, false, false, false, false, false, true])] w
theorem am_cc71 : am_co am_P 71 = am_lk am_rw71 ∧ am_hl am_P 71 = [] ∧ am_rtag (am_re am_P 71) = 1 := ⟨rfl, rfl, rfl⟩
set_option maxRecDepth 100000 in
theorem am_k71_0 {e : ak_X3} {d : Nat} {ρ1 ρ2 : Nat} {h : ak_S} {Q : Int → ak_S → Prop} {X : Nat → ak_S → Prop} {u : Nat} (hu : u = 0 ∨ u = 1) {x1 x2 x3 x4 x5 : Int} (w :
  (0 ≤ x2 ∧ x2 < (200 : Int)) ∧ ak_MI e 0 d [ak_T u, ρ1, ρ2, ak_T u, ak_T u + 1] 156 [am_r 33, am_i x1, am_i x2, am_i x3, am_i x4, am_l x5] h (fun v2 h1 =>
    (0 ≤ x2 ∧ x2 < (200 : Int)) ∧ (h1.1 34 x2.toNat = h.1 34 x2.toNat →
      Q v2 h1)
    ∧ (h1.1 34 x2.toNat ≠ h.1 34 x2.toNat →
      ak_MV e 0 d [ak_T u, ρ1, ρ2, ak_T u, ak_T u + 1] 116 [am_r 44, am_i x2] h1 (fun h3 =>
        Q v2 h3) (fun _ _ => False))) (fun _ _ => False)) :
  ak_W0 e 0 d 71 [ak_T u, ρ1, ρ2, ak_T u, ak_T u + 1] 0 [some (am_r 32), some (am_i x1), some (am_i x2), some (am_i x3), some (am_i x4), some (am_l x5), none, none, none] [] h (ak_qi Q X) := by
  rcases hu with rfl | rfl
  · exact ak_k_ok am_cc71 400 [] w
  · exact ak_k_ok am_cc71 400 [] w
theorem am_cc72 : am_co am_P 72 = am_lk am_rw72 ∧ am_hl am_P 72 = [] ∧ am_rtag (am_re am_P 72) = 0 := ⟨rfl, rfl, rfl⟩
set_option maxRecDepth 100000 in
theorem am_k72_0 {e : ak_X3} {d : Nat} {ρ1 ρ2 : Nat} {h : ak_S} {Q : ak_S → Prop} {X : Nat → ak_S → Prop} {u : Nat} (hu : u = 0 ∨ u = 1) (w :
  (am_w32 ((h.1 69 7) - 1) < 0 →
    Q ((am_up (am_up h.1 32 12 (am_w32 ((h.1 69 7) - 1))) 32 11 2), h.2))
  ∧ (0 ≤ am_w32 ((h.1 69 7) - 1) →
    (0 ≤ am_w32 ((h.1 69 7) - 1) ∧ am_w32 ((h.1 69 7) - 1) < (60 : Int)) ∧ (h.1 72 (am_w32 ((h.1 69 7) - 1)).toNat < 0 →
      Q ((am_up (am_up h.1 32 12 (am_w32 ((h.1 69 7) - 1))) 32 11 2), h.2))
    ∧ (0 ≤ h.1 72 (am_w32 ((h.1 69 7) - 1)).toNat →
      (0 ≤ am_w32 ((h.1 69 7) - 1) ∧ am_w32 ((h.1 69 7) - 1) < (60 : Int)) ∧ (h.1 72 (am_w32 ((h.1 69 7) - 1)).toNat < h.1 (ak_T u + 1) 2 →
        (0 ≤ am_w32 ((h.1 69 7) - 1) ∧ am_w32 ((h.1 69 7) - 1) < (60 : Int)) ∧ (0 ≤ am_w32 ((h.1 69 7) - 1) ∧ am_w32 ((h.1 69 7) - 1) < (60 : Int)) ∧ (0 ≤ h.1 72 (am_w32 ((h.1 69 7) - 1)).toNat ∧ h.1 72 (am_w32 ((h.1 69 7) - 1)).toNat < (9600 : Int)) ∧ (0 ≤ h.1 72 (am_w32 ((h.1 69 7) - 1)).toNat ∧ h.1 72 (am_w32 ((h.1 69 7) - 1)).toNat < (9600 : Int)) ∧ (7 < h.1 (ak_T u + 2) (h.1 72 (am_w32 ((h.1 69 7) - 1)).toNat).toNat →
          (16 < h.1 (ak_T u + 2) (h.1 72 (am_w32 ((h.1 69 7) - 1)).toNat).toNat →
            (20 < h.1 (ak_T u + 2) (h.1 72 (am_w32 ((h.1 69 7) - 1)).toNat).toNat →
              (25 < h.1 (ak_T u + 2) (h.1 72 (am_w32 ((h.1 69 7) - 1)).toNat).toNat →
                (31 < h.1 (ak_T u + 2) (h.1 72 (am_w32 ((h.1 69 7) - 1)).toNat).toNat →
                  ak_MV e 0 d [ak_T u, ρ1, ρ2, ak_T u, ak_T u + 1] 97 [am_r 32, am_i (h.1 (ak_T u + 2) (h.1 72 (am_w32 ((h.1 69 7) - 1)).toNat).toNat), am_i (h.1 (ak_T u + 3) (h.1 72 (am_w32 ((h.1 69 7) - 1)).toNat).toNat)] ((am_up (am_up h.1 32 12 (am_w32 ((h.1 69 7) - 1))) 72 (am_w32 ((h.1 69 7) - 1)).toNat (am_w32 ((h.1 72 (am_w32 ((h.1 69 7) - 1)).toNat) + 1))), h.2) (fun h1 =>
                    Q h1) (fun _ _ => False))
                ∧ (h.1 (ak_T u + 2) (h.1 72 (am_w32 ((h.1 69 7) - 1)).toNat).toNat ≤ 31 →
                  ak_MV e 0 d [ak_T u, ρ1, ρ2, ak_T u, ak_T u + 1] 96 [am_r 32, am_i (h.1 (ak_T u + 2) (h.1 72 (am_w32 ((h.1 69 7) - 1)).toNat).toNat), am_i (h.1 (ak_T u + 3) (h.1 72 (am_w32 ((h.1 69 7) - 1)).toNat).toNat)] ((am_up (am_up h.1 32 12 (am_w32 ((h.1 69 7) - 1))) 72 (am_w32 ((h.1 69 7) - 1)).toNat (am_w32 ((h.1 72 (am_w32 ((h.1 69 7) - 1)).toNat) + 1))), h.2) (fun h2 =>
                    Q h2) (fun _ _ => False)))
              ∧ (h.1 (ak_T u + 2) (h.1 72 (am_w32 ((h.1 69 7) - 1)).toNat).toNat ≤ 25 →
                ak_MV e 0 d [ak_T u, ρ1, ρ2, ak_T u, ak_T u + 1] 95 [am_r 32, am_i (h.1 (ak_T u + 2) (h.1 72 (am_w32 ((h.1 69 7) - 1)).toNat).toNat), am_i (h.1 (ak_T u + 3) (h.1 72 (am_w32 ((h.1 69 7) - 1)).toNat).toNat)] ((am_up (am_up h.1 32 12 (am_w32 ((h.1 69 7) - 1))) 72 (am_w32 ((h.1 69 7) - 1)).toNat (am_w32 ((h.1 72 (am_w32 ((h.1 69 7) - 1)).toNat) + 1))), h.2) (fun h3 =>
                  Q h3) (fun _ _ => False)))
            ∧ (h.1 (ak_T u + 2) (h.1 72 (am_w32 ((h.1 69 7) - 1)).toNat).toNat ≤ 20 →
              ak_MV e 0 d [ak_T u, ρ1, ρ2, ak_T u, ak_T u + 1] 85 [am_r 32, am_i (h.1 (ak_T u + 2) (h.1 72 (am_w32 ((h.1 69 7) - 1)).toNat).toNat), am_i (h.1 (ak_T u + 3) (h.1 72 (am_w32 ((h.1 69 7) - 1)).toNat).toNat)] ((am_up (am_up h.1 32 12 (am_w32 ((h.1 69 7) - 1))) 72 (am_w32 ((h.1 69 7) - 1)).toNat (am_w32 ((h.1 72 (am_w32 ((h.1 69 7) - 1)).toNat) + 1))), h.2) (fun h4 =>
                Q h4) (fun _ _ => False)))
          ∧ (h.1 (ak_T u + 2) (h.1 72 (am_w32 ((h.1 69 7) - 1)).toNat).toNat ≤ 16 →
            ak_MV e 0 d [ak_T u, ρ1, ρ2, ak_T u, ak_T u + 1] 80 [am_r 32, am_i (h.1 (ak_T u + 2) (h.1 72 (am_w32 ((h.1 69 7) - 1)).toNat).toNat)] ((am_up (am_up h.1 32 12 (am_w32 ((h.1 69 7) - 1))) 72 (am_w32 ((h.1 69 7) - 1)).toNat (am_w32 ((h.1 72 (am_w32 ((h.1 69 7) - 1)).toNat) + 1))), h.2) (fun h5 =>
              Q h5) (fun _ _ => False)))
        ∧ (h.1 (ak_T u + 2) (h.1 72 (am_w32 ((h.1 69 7) - 1)).toNat).toNat ≤ 7 →
          ak_MV e 0 d [ak_T u, ρ1, ρ2, ak_T u, ak_T u + 1] 78 [am_r 32, am_i (h.1 (ak_T u + 2) (h.1 72 (am_w32 ((h.1 69 7) - 1)).toNat).toNat), am_i (h.1 (ak_T u + 3) (h.1 72 (am_w32 ((h.1 69 7) - 1)).toNat).toNat)] ((am_up (am_up h.1 32 12 (am_w32 ((h.1 69 7) - 1))) 72 (am_w32 ((h.1 69 7) - 1)).toNat (am_w32 ((h.1 72 (am_w32 ((h.1 69 7) - 1)).toNat) + 1))), h.2) (fun h6 =>
            Q h6) (fun _ _ => False)))
      ∧ (h.1 (ak_T u + 1) 2 ≤ h.1 72 (am_w32 ((h.1 69 7) - 1)).toNat →
        Q ((am_up (am_up h.1 32 12 (am_w32 ((h.1 69 7) - 1))) 32 11 2), h.2))))) :
  ak_W0 e 0 d 72 [ak_T u, ρ1, ρ2, ak_T u, ak_T u + 1] 0 [some (am_r 32), none, none, none] [] h (ak_qv Q X) := by
  rcases hu with rfl | rfl
  · exact ak_k_ok am_cc72 400 [] w
  · exact ak_k_ok am_cc72 400 [] w
theorem am_cc73 : am_co am_P 73 = am_lk am_rw73 ∧ am_hl am_P 73 = [] ∧ am_rtag (am_re am_P 73) = 0 := ⟨rfl, rfl, rfl⟩
set_option maxRecDepth 100000 in
theorem am_k73_0 {e : ak_X3} {d : Nat} {ρ1 ρ2 : Nat} {h : ak_S} {Q : ak_S → Prop} {X : Nat → ak_S → Prop} {u : Nat} (hu : u = 0 ∨ u = 1) {x1 x2 : Int} (w :
  (12600 ≤ h.1 32 10 →
    Q h)
  ∧ (h.1 32 10 < 12600 →
    (0 ≤ h.1 32 10 ∧ h.1 32 10 < (12600 : Int)) ∧ (0 ≤ h.1 32 10 ∧ h.1 32 10 < (12600 : Int)) ∧ Q ((am_up (am_up h.1 108 (h.1 32 10).toNat x1) 32 10 (am_w32 ((h.1 32 10) + 1))), (am_up h.2.1 109 (h.1 32 10).toNat x2), h.2.2))) :
  ak_W0 e 0 d 73 [ak_T u, ρ1, ρ2, ak_T u, ak_T u + 1] 0 [some (am_r 32), some (am_i x1), some (am_l x2), none] [] h (ak_qv Q X) := by
  rcases hu with rfl | rfl
  · exact ak_k_ok am_cc73 400 [] w
  · exact ak_k_ok am_cc73 400 [] w
theorem am_cc74 : am_co am_P 74 = am_lk am_rw74 ∧ am_hl am_P 74 = [] ∧ am_rtag (am_re am_P 74) = 1 := ⟨rfl, rfl, rfl⟩
set_option maxRecDepth 100000 in
theorem am_k74_0 {e : ak_X3} {d : Nat} {ρ1 ρ2 : Nat} {h : ak_S} {Q : Int → ak_S → Prop} {X : Nat → ak_S → Prop} {u : Nat} (hu : u = 0 ∨ u = 1) (w :
  (h.1 32 10 ≤ 0 →
    Q (h.1 32 10) h)
  ∧ (0 < h.1 32 10 →
    Q (am_w32 ((h.1 32 10) - 1)) ((am_up h.1 32 10 (am_w32 ((h.1 32 10) - 1))), h.2))) :
  ak_W0 e 0 d 74 [ak_T u, ρ1, ρ2, ak_T u, ak_T u + 1] 0 [some (am_r 32)] [] h (ak_qi Q X) := by
  rcases hu with rfl | rfl
  · exact ak_k_ok am_cc74 400 [] w
  · exact ak_k_ok am_cc74 400 [] w
theorem am_cc75 : am_co am_P 75 = am_lk am_rw75 ∧ am_hl am_P 75 = [] ∧ am_rtag (am_re am_P 75) = 2 := ⟨rfl, rfl, rfl⟩
set_option maxRecDepth 100000 in
theorem am_k75_0 {e : ak_X3} {d : Nat} {ρ1 ρ2 : Nat} {h : ak_S} {Q : Int → ak_S → Prop} {X : Nat → ak_S → Prop} {u : Nat} (hu : u = 0 ∨ u = 1) {x1 : Int} (w :
  (0 ≤ x1 ∧ x1 < (12600 : Int)) ∧ (1 < h.1 108 x1.toNat →
    ((1 : Int) = 0 ∨ (1 : Int) = 1) ∧ Q 1 h)
  ∧ (h.1 108 x1.toNat ≤ 1 →
    (0 ≤ x1 ∧ x1 < (12600 : Int)) ∧ (h.1 108 x1.toNat ≠ 1 →
      ((0 : Int) = 0 ∨ (0 : Int) = 1) ∧ Q 0 h)
    ∧ (h.1 108 x1.toNat = 1 →
      (0 ≤ x1 ∧ x1 < (12600 : Int)) ∧ (am_lsign (h.2.1 109 x1.toNat) 0 = 0 →
        ((0 : Int) = 0 ∨ (0 : Int) = 1) ∧ Q 0 h)
      ∧ (am_lsign (h.2.1 109 x1.toNat) 0 ≠ 0 →
        ((1 : Int) = 0 ∨ (1 : Int) = 1) ∧ Q 1 h)))) :
  ak_W0 e 0 d 75 [ak_T u, ρ1, ρ2, ak_T u, ak_T u + 1] 0 [some (am_r 32), some (am_i x1)] [] h (ak_qi Q X) := by
  rcases hu with rfl | rfl
  · exact ak_k_ok am_cc75 400 [] w
  · exact ak_k_ok am_cc75 400 [] w
theorem am_cc76 : am_co am_P 76 = am_lk am_rw76 ∧ am_hl am_P 76 = [] ∧ am_rtag (am_re am_P 76) = 2 := ⟨rfl, rfl, rfl⟩
set_option maxRecDepth 100000 in
theorem am_k76_0 {e : ak_X3} {d : Nat} {ρ1 ρ2 : Nat} {h : ak_S} {Q : Int → ak_S → Prop} {X : Nat → ak_S → Prop} {u : Nat} (hu : u = 0 ∨ u = 1) (w :
  (0 ≤ (2 : Int) ∧ (2 : Int) < (7 : Int)) ∧ (am_lsign (h.2.1 64 2) 4000 < 0 →
    (0 ≤ (2 : Int) ∧ (2 : Int) < (7 : Int)) ∧ (0 ≤ (2 : Int) ∧ (2 : Int) < (7 : Int)) ∧ ((1 : Int) = 0 ∨ (1 : Int) = 1) ∧ Q 1 (h.1, (am_up h.2.1 64 2 (am_w64 ((h.2.1 64 2) + 1))), h.2.2))
  ∧ (0 ≤ am_lsign (h.2.1 64 2) 4000 →
    ((0 : Int) = 0 ∨ (0 : Int) = 1) ∧ Q 0 ((am_up h.1 32 11 2), h.2))) :
  ak_W0 e 0 d 76 [ak_T u, ρ1, ρ2, ak_T u, ak_T u + 1] 0 [some (am_r 32)] [] h (ak_qi Q X) := by
  rcases hu with rfl | rfl
  · exact ak_k_ok am_cc76 400 [] w
  · exact ak_k_ok am_cc76 400 [] w
theorem am_cc77 : am_co am_P 77 = am_lk am_rw77 ∧ am_hl am_P 77 = [] ∧ am_rtag (am_re am_P 77) = 0 := ⟨rfl, rfl, rfl⟩
set_option maxRecDepth 100000 in
theorem am_k77_0 {e : ak_X3} {d : Nat} {ρ1 ρ2 : Nat} {h : ak_S} {Q : ak_S → Prop} {X : Nat → ak_S → Prop} {u : Nat} (hu : u = 0 ∨ u = 1) {x1 x2 x3 : Int} (w :
  (0 ≤ h.1 32 12 ∧ h.1 32 12 < (60 : Int)) ∧ (0 ≤ h.1 32 12 ∧ h.1 32 12 < (60 : Int)) ∧ ak_MI e 0 d [ak_T u, ρ1, ρ2, ak_T u, ak_T u + 1] 57 [am_r 77] h (fun v2 h1 =>
    ak_MI e 0 d [ak_T u, ρ1, ρ2, ak_T u, ak_T u + 1] 67 [am_r 63, am_i x1, am_i x2, am_l x3, am_i (h.1 71 (h.1 32 12).toNat), am_i (h.1 73 (h.1 32 12).toNat), am_i v2] h1 (fun v4 h3 =>
      ak_MV e 0 d [ak_T u, ρ1, ρ2, ak_T u, ak_T u + 1] 54 [am_r 77, am_i 1, am_i x1, am_i x2, am_l x3, am_i v4] h3 (fun h5 =>
        Q h5) (fun _ _ => False)) (fun _ _ => False)) (fun _ _ => False)) :
  ak_W0 e 0 d 77 [ak_T u, ρ1, ρ2, ak_T u, ak_T u + 1] 0 [some (am_r 32), some (am_i x1), some (am_i x2), some (am_l x3), none, none] [] h (ak_qv Q X) := by
  rcases hu with rfl | rfl
  · exact ak_k_ok am_cc77 400 [] w
  · exact ak_k_ok am_cc77 400 [] w
theorem am_cc78 : am_co am_P 78 = am_lk am_rw78 ∧ am_hl am_P 78 = [] ∧ am_rtag (am_re am_P 78) = 0 := ⟨rfl, rfl, rfl⟩
set_option maxRecDepth 100000 in
theorem am_k78_0 {e : ak_X3} {d : Nat} {ρ1 ρ2 : Nat} {h : ak_S} {Q : ak_S → Prop} {X : Nat → ak_S → Prop} {u : Nat} (hu : u = 0 ∨ u = 1) {x1 x2 : Int} (w :
  (0 ≤ h.1 32 12 ∧ h.1 32 12 < (60 : Int)) ∧ True ∧
    ((x1 < 0 ∨ 6 < x1) → ak_MI e 0 d [ak_T u, ρ1, ρ2, ak_T u, ak_T u + 1] 143 [am_r 49, am_i x2, am_i (h.1 70 (h.1 32 12).toNat)] h (fun v2 h1 =>
      ak_MV e 0 d [ak_T u, ρ1, ρ2, ak_T u, ak_T u + 1] 79 [am_r 32, am_i 3, am_i v2] h1 (fun h3 =>
        Q h3) (fun _ _ => False)) (fun _ _ => False)) ∧
    (x1 = 0 → ak_MV e 0 d [ak_T u, ρ1, ρ2, ak_T u, ak_T u + 1] 73 [am_r 32, am_i 1, am_l x2] h (fun h4 =>
      Q h4) (fun _ _ => False)) ∧
    (x1 = 0 + 1 → ak_MV e 0 d [ak_T u, ρ1, ρ2, ak_T u, ak_T u + 1] 73 [am_r 32, am_i 0, am_l 0] h (fun h5 =>
      Q h5) (fun _ _ => False)) ∧
    (x1 = 0 + 1 + 1 → (0 ≤ h.1 70 (h.1 32 12).toNat ∧ h.1 70 (h.1 32 12).toNat < (560 : Int)) ∧ (0 ≤ h.1 53 (h.1 70 (h.1 32 12).toNat).toNat ∧ h.1 53 (h.1 70 (h.1 32 12).toNat).toNat < (560 : Int)) ∧ (0 ≤ h.1 70 (h.1 32 12).toNat ∧ h.1 70 (h.1 32 12).toNat < (560 : Int)) ∧ (0 ≤ h.1 53 (h.1 70 (h.1 32 12).toNat).toNat ∧ h.1 53 (h.1 70 (h.1 32 12).toNat).toNat < (560 : Int)) ∧ ak_MV e 0 d [ak_T u, ρ1, ρ2, ak_T u, ak_T u + 1] 73 [am_r 32, am_i (h.1 56 (h.1 53 (h.1 70 (h.1 32 12).toNat).toNat).toNat), am_l (h.2.1 57 (h.1 53 (h.1 70 (h.1 32 12).toNat).toNat).toNat)] h (fun h6 =>
      Q h6) (fun _ _ => False)) ∧
    (x1 = 0 + 1 + 1 + 1 → ak_MV e 0 d [ak_T u, ρ1, ρ2, ak_T u, ak_T u + 1] 73 [am_r 32, am_i 2, am_l 0] h (fun h7 =>
      Q h7) (fun _ _ => False)) ∧
    (x1 = 0 + 1 + 1 + 1 + 1 → ak_MI e 0 d [ak_T u, ρ1, ρ2, ak_T u, ak_T u + 1] 149 [am_r 33] h (fun v9 h8 =>
      ak_MV e 0 d [ak_T u, ρ1, ρ2, ak_T u, ak_T u + 1] 79 [am_r 32, am_i 2, am_i v9] h8 (fun h10 =>
        Q h10) (fun _ _ => False)) (fun _ _ => False)) ∧
    (x1 = 0 + 1 + 1 + 1 + 1 + 1 → ak_MI e 0 d [ak_T u, ρ1, ρ2, ak_T u, ak_T u + 1] 74 [am_r 32] h (fun v12 h11 =>
      (0 ≤ v12 ∧ v12 < (12600 : Int)) ∧ (0 ≤ v12 ∧ v12 < (12600 : Int)) ∧ ak_MI e 0 d [ak_T u, ρ1, ρ2, ak_T u, ak_T u + 1] 151 [am_r 33, am_i (h11.1 108 v12.toNat), am_l (h11.2.1 109 v12.toNat)] h11 (fun v14 h13 =>
        (0 ≤ v14 →
          ak_MI e 0 d [ak_T u, ρ1, ρ2, ak_T u, ak_T u + 1] 150 [am_r 33, am_i v14] h13 (fun v16 h15 =>
            ak_MV e 0 d [ak_T u, ρ1, ρ2, ak_T u, ak_T u + 1] 79 [am_r 32, am_i 2, am_i v16] h15 (fun h17 =>
              Q h17) (fun _ _ => False)) (fun _ _ => False))
        ∧ (v14 < 0 →
          ak_MV e 0 d [ak_T u, ρ1, ρ2, ak_T u, ak_T u + 1] 77 [am_r 32, am_i 6, am_i 0, am_l 0] h13 (fun h18 =>
            Q h18) (fun _ _ => False))) (fun _ _ => False)) (fun _ _ => False)) ∧
    (x1 = 0 + 1 + 1 + 1 + 1 + 1 + 1 → ak_MI e 0 d [ak_T u, ρ1, ρ2, ak_T u, ak_T u + 1] 145 [am_r 49, am_i (h.1 70 (h.1 32 12).toNat), am_i x2] h (fun v20 h19 =>
      (0 ≤ v20 ∧ v20 < (6720 : Int)) ∧ (0 ≤ v20 ∧ v20 < (6720 : Int)) ∧ ak_MV e 0 d [ak_T u, ρ1, ρ2, ak_T u, ak_T u + 1] 73 [am_r 32, am_i (h19.1 50 v20.toNat), am_l (h19.2.1 51 v20.toNat)] h19 (fun h21 =>
        Q h21) (fun _ _ => False)) (fun _ _ => False)) ∧ True) :
  ak_W0 e 0 d 78 [ak_T u, ρ1, ρ2, ak_T u, ak_T u + 1] 0 [some (am_r 32), some (am_i x1), some (am_i x2), none, none, none, none] [] h (ak_qv Q X) := by
  rcases hu with rfl | rfl
  · exact ak_k_ok am_cc78 400 [] w
  · exact ak_k_ok am_cc78 400 [] w
theorem am_cc79 : am_co am_P 79 = am_lk am_rw79 ∧ am_hl am_P 79 = [] ∧ am_rtag (am_re am_P 79) = 0 := ⟨rfl, rfl, rfl⟩
set_option maxRecDepth 100000 in
theorem am_k79_0 {e : ak_X3} {d : Nat} {ρ1 ρ2 : Nat} {h : ak_S} {Q : ak_S → Prop} {X : Nat → ak_S → Prop} {u : Nat} (hu : u = 0 ∨ u = 1) {x1 x2 : Int} (w :
  (0 ≤ x2 →
    ak_MV e 0 d [ak_T u, ρ1, ρ2, ak_T u, ak_T u + 1] 73 [am_r 32, am_i x1, am_l x2] h (fun h1 =>
      Q h1) (fun _ _ => False))
  ∧ (x2 < 0 →
    ak_MV e 0 d [ak_T u, ρ1, ρ2, ak_T u, ak_T u + 1] 77 [am_r 32, am_i 8, am_i 0, am_l 0] h (fun h2 =>
      Q h2) (fun _ _ => False))) :
  ak_W0 e 0 d 79 [ak_T u, ρ1, ρ2, ak_T u, ak_T u + 1] 0 [some (am_r 32), some (am_i x1), some (am_i x2)] [] h (ak_qv Q X) := by
  rcases hu with rfl | rfl
  · exact ak_k_ok am_cc79 400 [] w
  · exact ak_k_ok am_cc79 400 [] w
theorem am_cc80 : am_co am_P 80 = am_lk am_rw80 ∧ am_hl am_P 80 = [] ∧ am_rtag (am_re am_P 80) = 0 := ⟨rfl, rfl, rfl⟩
set_option maxRecDepth 100000 in
theorem am_k80_0 {e : ak_X3} {d : Nat} {ρ1 ρ2 : Nat} {h : ak_S} {Q : ak_S → Prop} {X : Nat → ak_S → Prop} {u : Nat} (hu : u = 0 ∨ u = 1) {x1 : Int} (w :
  ak_MI e 0 d [ak_T u, ρ1, ρ2, ak_T u, ak_T u + 1] 74 [am_r 32] h (fun v2 h1 =>
    (x1 ≠ 8 →
      ak_MI e 0 d [ak_T u, ρ1, ρ2, ak_T u, ak_T u + 1] 74 [am_r 32] h1 (fun v4 h3 =>
        (x1 ≠ 16 →
          (0 ≤ v4 ∧ v4 < (12600 : Int)) ∧ (h3.1 108 v4.toNat ≠ 1 →
            ak_W0 e 0 d 80 [ak_T u, ρ1, ρ2, ak_T u, ak_T u + 1] 90 [some (am_r 32), none, none, none, none, none, none, none] [] h3 (ak_qv Q X))
          ∧ (h3.1 108 v4.toNat = 1 →
            (0 ≤ v2 ∧ v2 < (12600 : Int)) ∧ (h3.1 108 v2.toNat = 1 →
              (0 ≤ v4 ∧ v4 < (12600 : Int)) ∧ (0 ≤ v2 ∧ v2 < (12600 : Int)) ∧ True ∧
                ((x1 < 9 ∨ 15 < x1) → ak_W0 e 0 d 80 [ak_T u, ρ1, ρ2, ak_T u, ak_T u + 1] 282 [some (am_r 32), some (am_i x1), none, none, some (am_l (h3.2.1 109 v4.toNat)), none, some (am_l (h3.2.1 109 v2.toNat)), none] [] h3 (ak_qv Q X)) ∧
                (x1 = 9 → ak_W0 e 0 d 80 [ak_T u, ρ1, ρ2, ak_T u, ak_T u + 1] 156 [some (am_r 32), none, none, none, some (am_l (h3.2.1 109 v4.toNat)), none, some (am_l (h3.2.1 109 v2.toNat)), none] [] h3 (ak_qv Q X)) ∧
                (x1 = 9 + 1 → ak_W0 e 0 d 80 [ak_T u, ρ1, ρ2, ak_T u, ak_T u + 1] 193 [some (am_r 32), none, none, none, some (am_l (h3.2.1 109 v4.toNat)), none, some (am_l (h3.2.1 109 v2.toNat)), none] [] h3 (ak_qv Q X)) ∧
                (x1 = 9 + 1 + 1 → ak_W0 e 0 d 80 [ak_T u, ρ1, ρ2, ak_T u, ak_T u + 1] 227 [some (am_r 32), none, none, none, some (am_l (h3.2.1 109 v4.toNat)), none, some (am_l (h3.2.1 109 v2.toNat)), none] [] h3 (ak_qv Q X)) ∧
                (x1 = 9 + 1 + 1 + 1 → ak_W0 e 0 d 80 [ak_T u, ρ1, ρ2, ak_T u, ak_T u + 1] 282 [some (am_r 32), some (am_i x1), none, none, some (am_l (h3.2.1 109 v4.toNat)), none, some (am_l (h3.2.1 109 v2.toNat)), none] [] h3 (ak_qv Q X)) ∧
                (x1 = 9 + 1 + 1 + 1 + 1 → ak_W0 e 0 d 80 [ak_T u, ρ1, ρ2, ak_T u, ak_T u + 1] 282 [some (am_r 32), some (am_i x1), none, none, some (am_l (h3.2.1 109 v4.toNat)), none, some (am_l (h3.2.1 109 v2.toNat)), none] [] h3 (ak_qv Q X)) ∧
                (x1 = 9 + 1 + 1 + 1 + 1 + 1 → ak_W0 e 0 d 80 [ak_T u, ρ1, ρ2, ak_T u, ak_T u + 1] 244 [some (am_r 32), none, none, none, some (am_l (h3.2.1 109 v4.toNat)), none, some (am_l (h3.2.1 109 v2.toNat)), none] [] h3 (ak_qv Q X)) ∧
                (x1 = 9 + 1 + 1 + 1 + 1 + 1 + 1 → ak_W0 e 0 d 80 [ak_T u, ρ1, ρ2, ak_T u, ak_T u + 1] 263 [some (am_r 32), none, none, none, some (am_l (h3.2.1 109 v4.toNat)), none, some (am_l (h3.2.1 109 v2.toNat)), none] [] h3 (ak_qv Q X)) ∧ True)
            ∧ (h3.1 108 v2.toNat ≠ 1 →
              ak_W0 e 0 d 80 [ak_T u, ρ1, ρ2, ak_T u, ak_T u + 1] 90 [some (am_r 32), none, none, none, none, none, none, none] [] h3 (ak_qv Q X))))
        ∧ (x1 = 16 →
          (0 ≤ v4 ∧ v4 < (12600 : Int)) ∧ (0 ≤ v2 ∧ v2 < (12600 : Int)) ∧ (h3.1 108 v4.toNat ≠ h3.1 108 v2.toNat →
            ak_MV e 0 d [ak_T u, ρ1, ρ2, ak_T u, ak_T u + 1] 73 [am_r 32, am_i 1, am_l 0] h3 (fun h5 =>
              Q h5) (fun _ _ => False))
          ∧ (h3.1 108 v4.toNat = h3.1 108 v2.toNat →
            (0 ≤ v4 ∧ v4 < (12600 : Int)) ∧ (0 ≤ v2 ∧ v2 < (12600 : Int)) ∧ (am_lsign (h3.2.1 109 v4.toNat) (h3.2.1 109 v2.toNat) ≠ 0 →
              ak_MV e 0 d [ak_T u, ρ1, ρ2, ak_T u, ak_T u + 1] 73 [am_r 32, am_i 1, am_l 0] h3 (fun h6 =>
                Q h6) (fun _ _ => False))
            ∧ (am_lsign (h3.2.1 109 v4.toNat) (h3.2.1 109 v2.toNat) = 0 →
              ak_MV e 0 d [ak_T u, ρ1, ρ2, ak_T u, ak_T u + 1] 73 [am_r 32, am_i 1, am_l 1] h3 (fun h7 =>
                Q h7) (fun _ _ => False))))) (fun _ _ => False))
    ∧ (x1 = 8 →
      ak_MV e 0 d [ak_T u, ρ1, ρ2, ak_T u, ak_T u + 1] 81 [am_r 32, am_i v2] h1 (fun h8 =>
        Q h8) (fun _ _ => False))) (fun _ _ => False)) :
  ak_W0 e 0 d 80 [ak_T u, ρ1, ρ2, ak_T u, ak_T u + 1] 0 [some (am_r 32), some (am_i x1), none, none, none, none, none, none] [] h (ak_qv Q X) := by
  rcases hu with rfl | rfl
  · exact ak_k_ok am_cc80 400 [(90, [true, false, false, false, false, false, false, false]), (156, [true, false, false, false, true, false, true, false]), (193, [true, false, false, false, true, false, true, false]), (227, [true, false, false, false, true, false, true, false]), (244, [true, false, false, false, true, false, true, false]), (263, [true, false, false, false, true, false, true, false]), (282, [true, true, false, false, true, false, true, false])] w
  · exact ak_k_ok am_cc80 400 [(90, [true, false, false, false, false, false, false, false]), (156, [true, false, false, false, true, false, true, false]), (193, [true, false, false, false, true, false, true, false]), (227, [true, false, false, false, true, false, true, false]), (244, [true, false, false, false, true, false, true, false]), (263, [true, false, false, false, true, false, true, false]), (282, [true, true, false, false, true, false, true, false])] w
set_option maxRecDepth 100000 in
theorem am_k80_90 {e : ak_X3} {d : Nat} {ρ1 ρ2 : Nat} {h : ak_S} {Q : ak_S → Prop} {X : Nat → ak_S → Prop} {u : Nat} (hu : u = 0 ∨ u = 1) (w :
  ak_MV e 0 d [ak_T u, ρ1, ρ2, ak_T u, ak_T u + 1] 77 [am_r 32, am_i 3, am_i 0, am_l 0] h (fun h1 =>
    Q h1) (fun _ _ => False)) :
  ak_W0 e 0 d 80 [ak_T u, ρ1, ρ2, ak_T u, ak_T u + 1] 90 [some (am_r 32), none, none, none, none, none, none, none] [] h (ak_qv Q X) := by
  rcases hu with rfl | rfl
  · exact ak_k_ok am_cc80 400 [(90, [true, false, false, false, false, false, false, false]), (156, [true, false, false, false, true, false, true, false]), (193, [true, false, false, false, true, false, true, false]), (227, [true, false, false, false, true, false, true, false]), (244, [true, false, false, false, true, false, true, false]), (263, [true, false, false, false, true, false, true, false]), (282, [true, true, false, false, true, false, true, false])] w
  · exact ak_k_ok am_cc80 400 [(90, [true, false, false, false, false, false, false, false]), (156, [true, false, false, false, true, false, true, false]), (193, [true, false, false, false, true, false, true, false]), (227, [true, false, false, false, true, false, true, false]), (244, [true, false, false, false, true, false, true, false]), (263, [true, false, false, false, true, false, true, false]), (282, [true, true, false, false, true, false, true, false])] w
set_option maxRecDepth 100000 in
theorem am_k80_156 {e : ak_X3} {d : Nat} {ρ1 ρ2 : Nat} {h : ak_S} {Q : ak_S → Prop} {X : Nat → ak_S → Prop} {u : Nat} (hu : u = 0 ∨ u = 1) {x4 x6 : Int} (w :
  (am_lsign ((Int64.ofInt ((Int64.ofInt x4 ^^^ Int64.ofInt (am_w64 (x4 + x6))).toInt) &&& Int64.ofInt ((Int64.ofInt x6 ^^^ Int64.ofInt (am_w64 (x4 + x6))).toInt)).toInt) 0 < 0 →
    ak_MV e 0 d [ak_T u, ρ1, ρ2, ak_T u, ak_T u + 1] 83 [am_r 32, am_l (am_w64 (x4 + x6)), am_i 0] h (fun h1 =>
      Q h1) (fun _ _ => False))
  ∧ (0 ≤ am_lsign ((Int64.ofInt ((Int64.ofInt x4 ^^^ Int64.ofInt (am_w64 (x4 + x6))).toInt) &&& Int64.ofInt ((Int64.ofInt x6 ^^^ Int64.ofInt (am_w64 (x4 + x6))).toInt)).toInt) 0 →
    ak_MV e 0 d [ak_T u, ρ1, ρ2, ak_T u, ak_T u + 1] 83 [am_r 32, am_l (am_w64 (x4 + x6)), am_i 1] h (fun h2 =>
      Q h2) (fun _ _ => False))) :
  ak_W0 e 0 d 80 [ak_T u, ρ1, ρ2, ak_T u, ak_T u + 1] 156 [some (am_r 32), none, none, none, some (am_l x4), none, some (am_l x6), none] [] h (ak_qv Q X) := by
  rcases hu with rfl | rfl
  · exact ak_k_ok am_cc80 400 [(90, [true, false, false, false, false, false, false, false]), (156, [true, false, false, false, true, false, true, false]), (193, [true, false, false, false, true, false, true, false]), (227, [true, false, false, false, true, false, true, false]), (244, [true, false, false, false, true, false, true, false]), (263, [true, false, false, false, true, false, true, false]), (282, [true, true, false, false, true, false, true, false])] w
  · exact ak_k_ok am_cc80 400 [(90, [true, false, false, false, false, false, false, false]), (156, [true, false, false, false, true, false, true, false]), (193, [true, false, false, false, true, false, true, false]), (227, [true, false, false, false, true, false, true, false]), (244, [true, false, false, false, true, false, true, false]), (263, [true, false, false, false, true, false, true, false]), (282, [true, true, false, false, true, false, true, false])] w
set_option maxRecDepth 100000 in
theorem am_k80_193 {e : ak_X3} {d : Nat} {ρ1 ρ2 : Nat} {h : ak_S} {Q : ak_S → Prop} {X : Nat → ak_S → Prop} {u : Nat} (hu : u = 0 ∨ u = 1) {x4 x6 : Int} (w :
  (am_lsign ((Int64.ofInt ((Int64.ofInt x4 ^^^ Int64.ofInt x6).toInt) &&& Int64.ofInt ((Int64.ofInt x4 ^^^ Int64.ofInt (am_w64 (x4 - x6))).toInt)).toInt) 0 < 0 →
    ak_MV e 0 d [ak_T u, ρ1, ρ2, ak_T u, ak_T u + 1] 83 [am_r 32, am_l (am_w64 (x4 - x6)), am_i 0] h (fun h1 =>
      Q h1) (fun _ _ => False))
  ∧ (0 ≤ am_lsign ((Int64.ofInt ((Int64.ofInt x4 ^^^ Int64.ofInt x6).toInt) &&& Int64.ofInt ((Int64.ofInt x4 ^^^ Int64.ofInt (am_w64 (x4 - x6))).toInt)).toInt) 0 →
    ak_MV e 0 d [ak_T u, ρ1, ρ2, ak_T u, ak_T u + 1] 83 [am_r 32, am_l (am_w64 (x4 - x6)), am_i 1] h (fun h2 =>
      Q h2) (fun _ _ => False))) :
  ak_W0 e 0 d 80 [ak_T u, ρ1, ρ2, ak_T u, ak_T u + 1] 193 [some (am_r 32), none, none, none, some (am_l x4), none, some (am_l x6), none] [] h (ak_qv Q X) := by
  rcases hu with rfl | rfl
  · exact ak_k_ok am_cc80 400 [(90, [true, false, false, false, false, false, false, false]), (156, [true, false, false, false, true, false, true, false]), (193, [true, false, false, false, true, false, true, false]), (227, [true, false, false, false, true, false, true, false]), (244, [true, false, false, false, true, false, true, false]), (263, [true, false, false, false, true, false, true, false]), (282, [true, true, false, false, true, false, true, false])] w
  · exact ak_k_ok am_cc80 400 [(90, [true, false, false, false, false, false, false, false]), (156, [true, false, false, false, true, false, true, false]), (193, [true, false, false, false, true, false, true, false]), (227, [true, false, false, false, true, false, true, false]), (244, [true, false, false, false, true, false, true, false]), (263, [true, false, false, false, true, false, true, false]), (282, [true, true, false, false, true, false, true, false])] w
set_option maxRecDepth 100000 in
theorem am_k80_227 {e : ak_X3} {d : Nat} {ρ1 ρ2 : Nat} {h : ak_S} {Q : ak_S → Prop} {X : Nat → ak_S → Prop} {u : Nat} (hu : u = 0 ∨ u = 1) {x4 x6 : Int} (w :
  ak_MI e 0 d [ak_T u, ρ1, ρ2, ak_T u, ak_T u + 1] 84 [am_l x4, am_l x6] h (fun v2 h1 =>
    ak_MV e 0 d [ak_T u, ρ1, ρ2, ak_T u, ak_T u + 1] 83 [am_r 32, am_l (am_w64 (x4 * x6)), am_i v2] h1 (fun h3 =>
      Q h3) (fun _ _ => False)) (fun _ _ => False)) :
  ak_W0 e 0 d 80 [ak_T u, ρ1, ρ2, ak_T u, ak_T u + 1] 227 [some (am_r 32), none, none, none, some (am_l x4), none, some (am_l x6), none] [] h (ak_qv Q X) := by
  rcases hu with rfl | rfl
  · exact ak_k_ok am_cc80 400 [(90, [true, false, false, false, false, false, false, false]), (156, [true, false, false, false, true, false, true, false]), (193, [true, false, false, false, true, false, true, false]), (227, [true, false, false, false, true, false, true, false]), (244, [true, false, false, false, true, false, true, false]), (263, [true, false, false, false, true, false, true, false]), (282, [true, true, false, false, true, false, true, false])] w
  · exact ak_k_ok am_cc80 400 [(90, [true, false, false, false, false, false, false, false]), (156, [true, false, false, false, true, false, true, false]), (193, [true, false, false, false, true, false, true, false]), (227, [true, false, false, false, true, false, true, false]), (244, [true, false, false, false, true, false, true, false]), (263, [true, false, false, false, true, false, true, false]), (282, [true, true, false, false, true, false, true, false])] w
set_option maxRecDepth 100000 in
theorem am_k80_244 {e : ak_X3} {d : Nat} {ρ1 ρ2 : Nat} {h : ak_S} {Q : ak_S → Prop} {X : Nat → ak_S → Prop} {u : Nat} (hu : u = 0 ∨ u = 1) {x4 x6 : Int} (w :
  (0 ≤ am_lsign x4 x6 →
    ak_MV e 0 d [ak_T u, ρ1, ρ2, ak_T u, ak_T u + 1] 73 [am_r 32, am_i 1, am_l 0] h (fun h1 =>
      Q h1) (fun _ _ => False))
  ∧ (am_lsign x4 x6 < 0 →
    ak_MV e 0 d [ak_T u, ρ1, ρ2, ak_T u, ak_T u + 1] 73 [am_r 32, am_i 1, am_l 1] h (fun h2 =>
      Q h2) (fun _ _ => False))) :
  ak_W0 e 0 d 80 [ak_T u, ρ1, ρ2, ak_T u, ak_T u + 1] 244 [some (am_r 32), none, none, none, some (am_l x4), none, some (am_l x6), none] [] h (ak_qv Q X) := by
  rcases hu with rfl | rfl
  · exact ak_k_ok am_cc80 400 [(90, [true, false, false, false, false, false, false, false]), (156, [true, false, false, false, true, false, true, false]), (193, [true, false, false, false, true, false, true, false]), (227, [true, false, false, false, true, false, true, false]), (244, [true, false, false, false, true, false, true, false]), (263, [true, false, false, false, true, false, true, false]), (282, [true, true, false, false, true, false, true, false])] w
  · exact ak_k_ok am_cc80 400 [(90, [true, false, false, false, false, false, false, false]), (156, [true, false, false, false, true, false, true, false]), (193, [true, false, false, false, true, false, true, false]), (227, [true, false, false, false, true, false, true, false]), (244, [true, false, false, false, true, false, true, false]), (263, [true, false, false, false, true, false, true, false]), (282, [true, true, false, false, true, false, true, false])] w
set_option maxRecDepth 100000 in
theorem am_k80_263 {e : ak_X3} {d : Nat} {ρ1 ρ2 : Nat} {h : ak_S} {Q : ak_S → Prop} {X : Nat → ak_S → Prop} {u : Nat} (hu : u = 0 ∨ u = 1) {x4 x6 : Int} (w :
  (am_lsign x4 x6 ≤ 0 →
    ak_MV e 0 d [ak_T u, ρ1, ρ2, ak_T u, ak_T u + 1] 73 [am_r 32, am_i 1, am_l 0] h (fun h1 =>
      Q h1) (fun _ _ => False))
  ∧ (0 < am_lsign x4 x6 →
    ak_MV e 0 d [ak_T u, ρ1, ρ2, ak_T u, ak_T u + 1] 73 [am_r 32, am_i 1, am_l 1] h (fun h2 =>
      Q h2) (fun _ _ => False))) :
  ak_W0 e 0 d 80 [ak_T u, ρ1, ρ2, ak_T u, ak_T u + 1] 263 [some (am_r 32), none, none, none, some (am_l x4), none, some (am_l x6), none] [] h (ak_qv Q X) := by
  rcases hu with rfl | rfl
  · exact ak_k_ok am_cc80 400 [(90, [true, false, false, false, false, false, false, false]), (156, [true, false, false, false, true, false, true, false]), (193, [true, false, false, false, true, false, true, false]), (227, [true, false, false, false, true, false, true, false]), (244, [true, false, false, false, true, false, true, false]), (263, [true, false, false, false, true, false, true, false]), (282, [true, true, false, false, true, false, true, false])] w
  · exact ak_k_ok am_cc80 400 [(90, [true, false, false, false, false, false, false, false]), (156, [true, false, false, false, true, false, true, false]), (193, [true, false, false, false, true, false, true, false]), (227, [true, false, false, false, true, false, true, false]), (244, [true, false, false, false, true, false, true, false]), (263, [true, false, false, false, true, false, true, false]), (282, [true, true, false, false, true, false, true, false])] w
set_option maxRecDepth 100000 in
theorem am_k80_282 {e : ak_X3} {d : Nat} {ρ1 ρ2 : Nat} {h : ak_S} {Q : ak_S → Prop} {X : Nat → ak_S → Prop} {u : Nat} (hu : u = 0 ∨ u = 1) {x1 x4 x6 : Int} (w :
  ak_MV e 0 d [ak_T u, ρ1, ρ2, ak_T u, ak_T u + 1] 82 [am_r 32, am_i x1, am_l x4, am_l x6] h (fun h1 =>
    Q h1) (fun _ _ => False)) :
  ak_W0 e 0 d 80 [ak_T u, ρ1, ρ2, ak_T u, ak_T u + 1] 282 [some (am_r 32), some (am_i x1), none, none, some (am_l x4), none, some (am_l x6), none] [] h (ak_qv Q X) := by
  rcases hu with rfl | rfl
  · exact ak_k_ok am_cc80 400 [(90, [true, false, false, false, false, false, false, false]), (156, [true, false, false, false, true, false, true, false]), (193, [true, false, false, false, true, false, true, false]), (227, [true, false, false, false, true, false, true, false]), (244, [true, false, false, false, true, false, true, false]), (263, [true, false, false, false, true, false, true, false]), (282, [true, true, false, false, true, false, true, false])] w
  · exact ak_k_ok am_cc80 400 [(90, [true, false, false, false, false, false, false, false]), (156, [true, false, false, false, true, false, true, false]), (193, [true, false, false, false, true, false, true, false]), (227, [true, false, false, false, true, false, true, false]), (244, [true, false, false, false, true, false, true, false]), (263, [true, false, false, false, true, false, true, false]), (282, [true, true, false, false, true, false, true, false])] w
theorem am_cc81 : am_co am_P 81 = am_lk am_rw81 ∧ am_hl am_P 81 = [] ∧ am_rtag (am_re am_P 81) = 0 := ⟨rfl, rfl, rfl⟩
set_option maxRecDepth 100000 in
theorem am_k81_0 {e : ak_X3} {d : Nat} {ρ1 ρ2 : Nat} {h : ak_S} {Q : ak_S → Prop} {X : Nat → ak_S → Prop} {u : Nat} (hu : u = 0 ∨ u = 1) {x1 : Int} (w :
  (0 ≤ x1 ∧ x1 < (12600 : Int)) ∧ (h.1 108 x1.toNat = 1 →
    (0 ≤ x1 ∧ x1 < (12600 : Int)) ∧ (0 ≤ x1 ∧ x1 < (12600 : Int)) ∧ (am_lsign (h.2.1 109 x1.toNat) ((-9223372036854775808)) = 0 →
      ak_MV e 0 d [ak_T u, ρ1, ρ2, ak_T u, ak_T u + 1] 83 [am_r 32, am_l (am_w64 (-(h.2.1 109 x1.toNat))), am_i 0] h (fun h1 =>
        Q h1) (fun _ _ => False))
    ∧ (am_lsign (h.2.1 109 x1.toNat) ((-9223372036854775808)) ≠ 0 →
      ak_MV e 0 d [ak_T u, ρ1, ρ2, ak_T u, ak_T u + 1] 83 [am_r 32, am_l (am_w64 (-(h.2.1 109 x1.toNat))), am_i 1] h (fun h2 =>
        Q h2) (fun _ _ => False)))
  ∧ (h.1 108 x1.toNat ≠ 1 →
    ak_MV e 0 d [ak_T u, ρ1, ρ2, ak_T u, ak_T u + 1] 77 [am_r 32, am_i 3, am_i 0, am_l 0] h (fun h3 =>
      Q h3) (fun _ _ => False))) :
  ak_W0 e 0 d 81 [ak_T u, ρ1, ρ2, ak_T u, ak_T u + 1] 0 [some (am_r 32), some (am_i x1)] [] h (ak_qv Q X) := by
  rcases hu with rfl | rfl
  · exact ak_k_ok am_cc81 400 [] w
  · exact ak_k_ok am_cc81 400 [] w
theorem am_cc82 : am_co am_P 82 = am_lk am_rw82 ∧ am_hl am_P 82 = [] ∧ am_rtag (am_re am_P 82) = 0 := ⟨rfl, rfl, rfl⟩
set_option maxRecDepth 100000 in
theorem am_k82_0 {e : ak_X3} {d : Nat} {ρ1 ρ2 : Nat} {h : ak_S} {Q : ak_S → Prop} {X : Nat → ak_S → Prop} {u : Nat} (hu : u = 0 ∨ u = 1) {x1 x2 x4 : Int} (w :
  (am_lsign x4 0 ≠ 0 →
    (x1 ≠ 13 →
      (am_lsign x4 ((-1)) ≠ 0 →
        (x4 ≠ 0) ∧ ak_MV e 0 d [ak_T u, ρ1, ρ2, ak_T u, ak_T u + 1] 73 [am_r 32, am_i 1, am_l (am_w64 (Int.tdiv x2 x4))] h (fun h1 =>
          Q h1) (fun _ _ => False))
      ∧ (am_lsign x4 ((-1)) = 0 →
        (am_lsign x2 ((-9223372036854775808)) = 0 →
          ak_MV e 0 d [ak_T u, ρ1, ρ2, ak_T u, ak_T u + 1] 83 [am_r 32, am_l (am_w64 (-x2)), am_i 0] h (fun h2 =>
            Q h2) (fun _ _ => False))
        ∧ (am_lsign x2 ((-9223372036854775808)) ≠ 0 →
          ak_MV e 0 d [ak_T u, ρ1, ρ2, ak_T u, ak_T u + 1] 83 [am_r 32, am_l (am_w64 (-x2)), am_i 1] h (fun h3 =>
            Q h3) (fun _ _ => False))))
    ∧ (x1 = 13 →
      (am_lsign x4 ((-1)) ≠ 0 →
        (x4 ≠ 0) ∧ ak_MV e 0 d [ak_T u, ρ1, ρ2, ak_T u, ak_T u + 1] 73 [am_r 32, am_i 1, am_l (Int.tmod x2 x4)] h (fun h4 =>
          Q h4) (fun _ _ => False))
      ∧ (am_lsign x4 ((-1)) = 0 →
        ak_MV e 0 d [ak_T u, ρ1, ρ2, ak_T u, ak_T u + 1] 73 [am_r 32, am_i 1, am_l 0] h (fun h5 =>
          Q h5) (fun _ _ => False))))
  ∧ (am_lsign x4 0 = 0 →
    ak_MV e 0 d [ak_T u, ρ1, ρ2, ak_T u, ak_T u + 1] 77 [am_r 32, am_i 5, am_i 0, am_l 0] h (fun h6 =>
      Q h6) (fun _ _ => False))) :
  ak_W0 e 0 d 82 [ak_T u, ρ1, ρ2, ak_T u, ak_T u + 1] 0 [some (am_r 32), some (am_i x1), some (am_l x2), none, some (am_l x4), none] [] h (ak_qv Q X) := by
  rcases hu with rfl | rfl
  · exact ak_k_ok am_cc82 400 [] w
  · exact ak_k_ok am_cc82 400 [] w
theorem am_cc83 : am_co am_P 83 = am_lk am_rw83 ∧ am_hl am_P 83 = [] ∧ am_rtag (am_re am_P 83) = 0 := ⟨rfl, rfl, rfl⟩
set_option maxRecDepth 100000 in
theorem am_k83_0 {e : ak_X3} {d : Nat} {ρ1 ρ2 : Nat} {h : ak_S} {Q : ak_S → Prop} {X : Nat → ak_S → Prop} {u : Nat} (hu : u = 0 ∨ u = 1) {x1 x3 : Int} (w :
  (x3 = 0 →
    ak_MV e 0 d [ak_T u, ρ1, ρ2, ak_T u, ak_T u + 1] 77 [am_r 32, am_i 4, am_i 0, am_l 0] h (fun h1 =>
      Q h1) (fun _ _ => False))
  ∧ (x3 ≠ 0 →
    ak_MV e 0 d [ak_T u, ρ1, ρ2, ak_T u, ak_T u + 1] 73 [am_r 32, am_i 1, am_l x1] h (fun h2 =>
      Q h2) (fun _ _ => False))) :
  ak_W0 e 0 d 83 [ak_T u, ρ1, ρ2, ak_T u, ak_T u + 1] 0 [some (am_r 32), some (am_l x1), none, some (am_i x3)] [] h (ak_qv Q X) := by
  rcases hu with rfl | rfl
  · exact ak_k_ok am_cc83 400 [] w
  · exact ak_k_ok am_cc83 400 [] w
theorem am_cc84 : am_co am_P 84 = am_lk am_rw84 ∧ am_hl am_P 84 = [] ∧ am_rtag (am_re am_P 84) = 2 := ⟨rfl, rfl, rfl⟩
set_option maxRecDepth 100000 in
theorem am_k84_0 {e : ak_X3} {d : Nat} {ρ1 ρ2 : Nat} {h : ak_S} {Q : Int → ak_S → Prop} {X : Nat → ak_S → Prop} {u : Nat} (hu : u = 0 ∨ u = 1) {x0 x2 : Int} (w :
  (am_lsign x0 0 = 0 →
    ((1 : Int) = 0 ∨ (1 : Int) = 1) ∧ Q 1 h)
  ∧ (am_lsign x0 0 ≠ 0 →
    (am_lsign x2 0 ≠ 0 →
      (am_lsign x0 ((-1)) = 0 →
        ak_W0 e 0 d 84 [ak_T u, ρ1, ρ2, ak_T u, ak_T u + 1] 30 [some (am_l x0), none, some (am_l x2), none] [] h (ak_qi Q X))
      ∧ (am_lsign x0 ((-1)) ≠ 0 →
        (am_lsign x2 ((-1)) ≠ 0 →
          (x2 ≠ 0) ∧ (am_lsign (am_w64 (Int.tdiv (am_w64 (x0 * x2)) x2)) x0 ≠ 0 →
            ((0 : Int) = 0 ∨ (0 : Int) = 1) ∧ Q 0 h)
          ∧ (am_lsign (am_w64 (Int.tdiv (am_w64 (x0 * x2)) x2)) x0 = 0 →
            ((1 : Int) = 0 ∨ (1 : Int) = 1) ∧ Q 1 h))
        ∧ (am_lsign x2 ((-1)) = 0 →
          ak_W0 e 0 d 84 [ak_T u, ρ1, ρ2, ak_T u, ak_T u + 1] 30 [some (am_l x0), none, some (am_l x2), none] [] h (ak_qi Q X))))
    ∧ (am_lsign x2 0 = 0 →
      ((1 : Int) = 0 ∨ (1 : Int) = 1) ∧ Q 1 h))) :
  ak_W0 e 0 d 84 [ak_T u, ρ1, ρ2, ak_T u, ak_T u + 1] 0 [some (am_l x0), none, some (am_l x2), none] [] h (ak_qi Q X) := by
  rcases hu with rfl | rfl
  · exact ak_k_ok am_cc84 400 [(30, [true, false, true, false])] w
  · exact ak_k_ok am_cc84 400 [(30, [true, false, true, false])] w
set_option maxRecDepth 100000 in
theorem am_k84_30 {e : ak_X3} {d : Nat} {ρ1 ρ2 : Nat} {h : ak_S} {Q : Int → ak_S → Prop} {X : Nat → ak_S → Prop} {u : Nat} (hu : u = 0 ∨ u = 1) {x0 x2 : Int} (w :
  (am_lsign x0 ((-9223372036854775808)) = 0 →
    ((0 : Int) = 0 ∨ (0 : Int) = 1) ∧ Q 0 h)
  ∧ (am_lsign x0 ((-9223372036854775808)) ≠ 0 →
    (am_lsign x2 ((-9223372036854775808)) = 0 →
      ((0 : Int) = 0 ∨ (0 : Int) = 1) ∧ Q 0 h)
    ∧ (am_lsign x2 ((-9223372036854775808)) ≠ 0 →
      ((1 : Int) = 0 ∨ (1 : Int) = 1) ∧ Q 1 h))) :
  ak_W0 e 0 d 84 [ak_T u, ρ1, ρ2, ak_T u, ak_T u + 1] 30 [some (am_l x0), none, some (am_l x2), none] [] h (ak_qi Q X) := by
  rcases hu with rfl | rfl
  · exact ak_k_ok am_cc84 400 [(30, [true, false, true, false])] w
  · exact ak_k_ok am_cc84 400 [(30, [true, false, true, false])] w
theorem am_cc85 : am_co am_P 85 = am_lk am_rw85 ∧ am_hl am_P 85 = [] ∧ am_rtag (am_re am_P 85) = 0 := ⟨rfl, rfl, rfl⟩
set_option maxRecDepth 100000 in
theorem am_k85_0 {e : ak_X3} {d : Nat} {ρ1 ρ2 : Nat} {h : ak_S} {Q : ak_S → Prop} {X : Nat → ak_S → Prop} {u : Nat} (hu : u = 0 ∨ u = 1) {x1 x2 : Int} (w :
  ak_MI e 0 d [ak_T u, ρ1, ρ2, ak_T u, ak_T u + 1] 76 [am_r 32] h (fun v2 h1 =>
    (v2 ≠ 0 →
      (x1 ≠ 20 →
        (x1 ≠ 19 →
          (x1 ≠ 18 →
            ak_MI e 0 d [ak_T u, ρ1, ρ2, ak_T u, ak_T u + 1] 87 [am_r 32, am_i ((Int32.ofInt x2 >>> (Int32.ofInt 3 &&& 31)).toInt), am_i ((Int32.ofInt x2 &&& Int32.ofInt 7).toInt), am_i 0] h1 (fun v4 h3 =>
              (v4 < 0 →
                Q h3)
              ∧ (0 ≤ v4 →
                ak_MV e 0 d [ak_T u, ρ1, ρ2, ak_T u, ak_T u + 1] 93 [am_r 32, am_i v4] h3 (fun h5 =>
                  Q h5) (fun _ _ => False))) (fun _ _ => False))
          ∧ (x1 = 18 →
            ak_MI e 0 d [ak_T u, ρ1, ρ2, ak_T u, ak_T u + 1] 86 [am_r 32] h1 (fun v7 h6 =>
              ak_MI e 0 d [ak_T u, ρ1, ρ2, ak_T u, ak_T u + 1] 87 [am_r 32, am_i ((Int32.ofInt x2 >>> (Int32.ofInt 3 &&& 31)).toInt), am_i ((Int32.ofInt x2 &&& Int32.ofInt 7).toInt), am_i v7] h6 (fun v9 h8 =>
                (v9 < 0 →
                  Q h8)
                ∧ (0 ≤ v9 →
                  ak_MV e 0 d [ak_T u, ρ1, ρ2, ak_T u, ak_T u + 1] 93 [am_r 32, am_i v9] h8 (fun h10 =>
                    Q h10) (fun _ _ => False))) (fun _ _ => False)) (fun _ _ => False)))
        ∧ (x1 = 19 →
          ak_MV e 0 d [ak_T u, ρ1, ρ2, ak_T u, ak_T u + 1] 92 [am_r 32, am_i x2] h1 (fun h11 =>
            Q h11) (fun _ _ => False)))
      ∧ (x1 = 20 →
        ak_MV e 0 d [ak_T u, ρ1, ρ2, ak_T u, ak_T u + 1] 91 [am_r 32, am_i x2] h1 (fun h12 =>
          Q h12) (fun _ _ => False)))
    ∧ (v2 = 0 →
      Q h1)) (fun _ _ => False)) :
  ak_W0 e 0 d 85 [ak_T u, ρ1, ρ2, ak_T u, ak_T u + 1] 0 [some (am_r 32), some (am_i x1), some (am_i x2), none] [] h (ak_qv Q X) := by
  rcases hu with rfl | rfl
  · exact ak_k_ok am_cc85 400 [] w
  · exact ak_k_ok am_cc85 400 [] w
theorem am_cc86 : am_co am_P 86 = am_lk am_rw86 ∧ am_hl am_P 86 = [] ∧ am_rtag (am_re am_P 86) = 1 := ⟨rfl, rfl, rfl⟩
set_option maxRecDepth 100000 in
theorem am_k86_0 {e : ak_X3} {d : Nat} {ρ1 ρ2 : Nat} {h : ak_S} {Q : Int → ak_S → Prop} {X : Nat → ak_S → Prop} {u : Nat} (hu : u = 0 ∨ u = 1) (w :
  (0 ≤ h.1 32 12 ∧ h.1 32 12 < (60 : Int)) ∧ (0 ≤ h.1 70 (h.1 32 12).toNat ∧ h.1 70 (h.1 32 12).toNat < (560 : Int)) ∧ (0 ≤ h.1 53 (h.1 70 (h.1 32 12).toNat).toNat ∧ h.1 53 (h.1 70 (h.1 32 12).toNat).toNat < (560 : Int)) ∧ (h.1 58 (h.1 53 (h.1 70 (h.1 32 12).toNat).toNat).toNat ≠ 0 →
    (0 ≤ h.1 53 (h.1 70 (h.1 32 12).toNat).toNat ∧ h.1 53 (h.1 70 (h.1 32 12).toNat).toNat < (560 : Int)) ∧ Q (am_w32 ((h.1 59 (h.1 53 (h.1 70 (h.1 32 12).toNat).toNat).toNat) + 1)) h)
  ∧ (h.1 58 (h.1 53 (h.1 70 (h.1 32 12).toNat).toNat).toNat = 0 →
    Q ((-1)) h)) :
  ak_W0 e 0 d 86 [ak_T u, ρ1, ρ2, ak_T u, ak_T u + 1] 0 [some (am_r 32), none] [] h (ak_qi Q X) := by
  rcases hu with rfl | rfl
  · exact ak_k_ok am_cc86 400 [] w
  · exact ak_k_ok am_cc86 400 [] w
theorem am_cc87 : am_co am_P 87 = am_lk am_rw87 ∧ am_hl am_P 87 = [] ∧ am_rtag (am_re am_P 87) = 1 := ⟨rfl, rfl, rfl⟩
set_option maxRecDepth 100000 in
theorem am_k87_0 {e : ak_X3} {d : Nat} {ρ1 ρ2 : Nat} {h : ak_S} {Q : Int → ak_S → Prop} {X : Nat → ak_S → Prop} {u : Nat} (hu : u = 0 ∨ u = 1) {x1 x2 x3 : Int} (w :
  (0 ≤ (if 0 < am_w32 ((am_w32 ((h.1 32 10) - x2)) - 1) then am_w32 ((am_w32 ((h.1 32 10) - x2)) - 1) else 0) ∧ (if 0 < am_w32 ((am_w32 ((h.1 32 10) - x2)) - 1) then am_w32 ((am_w32 ((h.1 32 10) - x2)) - 1) else 0) < (12600 : Int)) ∧ (0 ≤ (if 0 < am_w32 ((am_w32 ((h.1 32 10) - x2)) - 1) then am_w32 ((am_w32 ((h.1 32 10) - x2)) - 1) else 0) ∧ (if 0 < am_w32 ((am_w32 ((h.1 32 10) - x2)) - 1) then am_w32 ((am_w32 ((h.1 32 10) - x2)) - 1) else 0) < (12600 : Int)) ∧ ak_MI e 0 d [ak_T u, ρ1, ρ2, ak_T u, ak_T u + 1] 152 [am_r 33, am_i (h.1 108 ((if 0 < am_w32 ((am_w32 ((h.1 32 10) - x2)) - 1) then am_w32 ((am_w32 ((h.1 32 10) - x2)) - 1) else 0)).toNat), am_l (h.2.1 109 ((if 0 < am_w32 ((am_w32 ((h.1 32 10) - x2)) - 1) then am_w32 ((am_w32 ((h.1 32 10) - x2)) - 1) else 0)).toNat)] h (fun v2 h1 =>
    (0 ≤ x1 ∧ x1 < (150 : Int)) ∧ (0 ≤ v2 ∧ v2 < (200 : Int)) ∧ ak_MV e 0 d [ak_T u, ρ1, ρ2, ak_T u, ak_T u + 1] 111 [am_r 44, am_r 33, am_i x1, am_i (h1.1 (ak_T u + 16) x1.toNat), am_i (h1.1 34 v2.toNat), am_i x3] h1 (fun h3 =>
      (0 ≤ h3.1 44 7 →
        ak_MI e 0 d [ak_T u, ρ1, ρ2, ak_T u, ak_T u + 1] 88 [am_r 32, am_i v2, am_i (h1.1 (ak_T u + 16) x1.toNat), am_i (h3.1 44 7), am_i (h3.1 44 8)] h3 (fun v5 h4 =>
          ak_MI e 0 d [ak_T u, ρ1, ρ2, ak_T u, ak_T u + 1] 89 [am_r 32, am_i v5] h4 (fun v7 h6 =>
            (0 ≤ v7 →
              ak_W0 e 0 d 87 [ak_T u, ρ1, ρ2, ak_T u, ak_T u + 1] 166 [some (am_r 32), none, some (am_i x2), none, none, none, none, none, some (am_i v7)] [] h6 (ak_qi Q X))
            ∧ (v7 < 0 →
              (x2 ≠ 0 →
                ak_W0 e 0 d 87 [ak_T u, ρ1, ρ2, ak_T u, ak_T u + 1] 166 [some (am_r 32), none, some (am_i x2), none, none, none, none, none, some (am_i v7)] [] h6 (ak_qi Q X))
              ∧ (x2 = 0 →
                (0 ≤ v5 ∧ v5 < (2400 : Int)) ∧ (0 ≤ v5 ∧ v5 < (2400 : Int)) ∧ ak_MV e 0 d [ak_T u, ρ1, ρ2, ak_T u, ak_T u + 1] 73 [am_r 32, am_i (h6.1 35 v5.toNat), am_l (h6.2.1 36 v5.toNat)] ((am_up h6.1 32 10 ((if 0 < am_w32 ((am_w32 ((h.1 32 10) - x2)) - 1) then am_w32 ((am_w32 ((h.1 32 10) - x2)) - 1) else 0))), h6.2) (fun h8 =>
                  Q ((-1)) h8) (fun _ _ => False)))) (fun _ _ => False)) (fun _ _ => False))
      ∧ (h3.1 44 7 < 0 →
        ak_MI e 0 d [ak_T u, ρ1, ρ2, ak_T u, ak_T u + 1] 90 [am_r 32, am_i (h1.1 (ak_T u + 16) x1.toNat), am_i x2, am_i v2] h3 (fun v10 h9 =>
          Q v10 h9) (fun _ _ => False))) (fun _ _ => False)) (fun _ _ => False)) :
  ak_W0 e 0 d 87 [ak_T u, ρ1, ρ2, ak_T u, ak_T u + 1] 0 [some (am_r 32), some (am_i x1), some (am_i x2), some (am_i x3), none, none, none, none, none] [] h (ak_qi Q X) := by
  rcases hu with rfl | rfl
  · exact ak_k_ok am_cc87 400 [(166, [true, false, true, false, false, false, false, false, true])] w
  · exact ak_k_ok am_cc87 400 [(166, [true, false, true, false, false, false, false, false, true])] w
set_option maxRecDepth 100000 in
theorem am_k87_166 {e : ak_X3} {d : Nat} {ρ1 ρ2 : Nat} {h : ak_S} {Q : Int → ak_S → Prop} {X : Nat → ak_S → Prop} {u : Nat} (hu : u = 0 ∨ u = 1) {x2 x8 : Int} (w :
  (x8 < 0 →
    ak_MV e 0 d [ak_T u, ρ1, ρ2, ak_T u, ak_T u + 1] 77 [am_r 32, am_i 2, am_i 0, am_l 0] h (fun h1 =>
      Q ((-1)) h1) (fun _ _ => False))
  ∧ (0 ≤ x8 →
    (0 ≤ x8 ∧ x8 < (40 : Int)) ∧ (h.1 (ak_T u + 12) x8.toNat = x2 →
      ((0 : Int) = 0 ∨ (0 : Int) = 1) ∧ Q x8 ((am_up (am_up (am_up (am_up h.1 32 13 x2) 32 14 (h.1 44 7)) 32 15 (h.1 44 8)) 32 16 0), h.2))
    ∧ (h.1 (ak_T u + 12) x8.toNat ≠ x2 →
      ak_MV e 0 d [ak_T u, ρ1, ρ2, ak_T u, ak_T u + 1] 77 [am_r 32, am_i 2, am_i 0, am_l 0] h (fun h2 =>
        Q ((-1)) h2) (fun _ _ => False)))) :
  ak_W0 e 0 d 87 [ak_T u, ρ1, ρ2, ak_T u, ak_T u + 1] 166 [some (am_r 32), none, some (am_i x2), none, none, none, none, none, some (am_i x8)] [] h (ak_qi Q X) := by
  rcases hu with rfl | rfl
  · exact ak_k_ok am_cc87 400 [(166, [true, false, true, false, false, false, false, false, true])] w
  · exact ak_k_ok am_cc87 400 [(166, [true, false, true, false, false, false, false, false, true])] w
theorem am_cc88 : am_co am_P 88 = am_lk am_rw88 ∧ am_hl am_P 88 = [] ∧ am_rtag (am_re am_P 88) = 1 := ⟨rfl, rfl, rfl⟩
set_option maxRecDepth 100000 in
theorem am_k88_0 {e : ak_X3} {d : Nat} {ρ1 ρ2 : Nat} {h : ak_S} {Q : Int → ak_S → Prop} {X : Nat → ak_S → Prop} {u : Nat} (hu : u = 0 ∨ u = 1) {x1 x2 x3 x4 : Int} (w :
  (x3 ≠ 0 →
    ak_W0 e 0 d 88 [ak_T u, ρ1, ρ2, ak_T u, ak_T u + 1] 10 [some (am_r 32), none, some (am_i x2), none, none, none] [am_i x4] h (ak_qi Q X))
  ∧ (x3 = 0 →
    ak_W0 e 0 d 88 [ak_T u, ρ1, ρ2, ak_T u, ak_T u + 1] 10 [some (am_r 32), none, some (am_i x2), none, none, none] [am_i x1] h (ak_qi Q X))) :
  ak_W0 e 0 d 88 [ak_T u, ρ1, ρ2, ak_T u, ak_T u + 1] 0 [some (am_r 32), some (am_i x1), some (am_i x2), some (am_i x3), some (am_i x4), none] [] h (ak_qi Q X) := by
  rcases hu with rfl | rfl
  · exact ak_k_ok am_cc88 400 [(10, [true, false, true, false, false, false])] w
  · exact ak_k_ok am_cc88 400 [(10, [true, false, true, false, false, false])] w
set_option maxRecDepth 100000 in
theorem am_k88_10 {e : ak_X3} {d : Nat} {ρ1 ρ2 : Nat} {h : ak_S} {Q : Int → ak_S → Prop} {X : Nat → ak_S → Prop} {u : Nat} (hu : u = 0 ∨ u = 1) {x2 y0 : Int} (w :
  (0 ≤ y0 ∧ y0 < (200 : Int)) ∧ ak_MI e 0 d [ak_T u, ρ1, ρ2, ak_T u, ak_T u + 1] 153 [am_r 33, am_i (h.1 34 y0.toNat), am_i x2] h (fun v2 h1 =>
    Q (am_w32 ((am_w32 (y0 * 12)) + ((if 0 < v2 then v2 else 0)))) h1) (fun _ _ => False)) :
  ak_W0 e 0 d 88 [ak_T u, ρ1, ρ2, ak_T u, ak_T u + 1] 10 [some (am_r 32), none, some (am_i x2), none, none, none] [am_i y0] h (ak_qi Q X) := by
  rcases hu with rfl | rfl
  · exact ak_k_ok am_cc88 400 [(10, [true, false, true, false, false, false])] w
  · exact ak_k_ok am_cc88 400 [(10, [true, false, true, false, false, false])] w
theorem am_cc89 : am_co am_P 89 = am_lk am_rw89 ∧ am_hl am_P 89 = [] ∧ am_rtag (am_re am_P 89) = 1 := ⟨rfl, rfl, rfl⟩
set_option maxRecDepth 100000 in
theorem am_k89_0 {e : ak_X3} {d : Nat} {ρ1 ρ2 : Nat} {h : ak_S} {Q : Int → ak_S → Prop} {X : Nat → ak_S → Prop} {u : Nat} (hu : u = 0 ∨ u = 1) {x1 : Int} (w :
  (0 ≤ x1 ∧ x1 < (2400 : Int)) ∧ (0 ≤ x1 ∧ x1 < (2400 : Int)) ∧ (h.1 35 x1.toNat ≠ 4 →
    Q ((-1)) h)
  ∧ (h.1 35 x1.toNat = 4 →
    (am_lsign (h.2.1 36 x1.toNat) 0 < 0 →
      Q ((-1)) h)
    ∧ (0 ≤ am_lsign (h.2.1 36 x1.toNat) 0 →
      (0 ≤ am_lsign (h.2.1 36 x1.toNat) (h.1 (ak_T u) 4) →
        Q ((-1)) h)
      ∧ (am_lsign (h.2.1 36 x1.toNat) (h.1 (ak_T u) 4) < 0 →
        Q (am_w32 (h.2.1 36 x1.toNat)) h)))) :
  ak_W0 e 0 d 89 [ak_T u, ρ1, ρ2, ak_T u, ak_T u + 1] 0 [some (am_r 32), some (am_i x1), none, none] [] h (ak_qi Q X) := by
  rcases hu with rfl | rfl
  · exact ak_k_ok am_cc89 400 [] w
  · exact ak_k_ok am_cc89 400 [] w
theorem am_cc90 : am_co am_P 90 = am_lk am_rw90 ∧ am_hl am_P 90 = [] ∧ am_rtag (am_re am_P 90) = 1 := ⟨rfl, rfl, rfl⟩
set_option maxRecDepth 100000 in
theorem am_k90_0 {e : ak_X3} {d : Nat} {ρ1 ρ2 : Nat} {h : ak_S} {Q : Int → ak_S → Prop} {X : Nat → ak_S → Prop} {u : Nat} (hu : u = 0 ∨ u = 1) {x1 x2 x3 : Int} (w :
  (0 ≤ x3 ∧ x3 < (200 : Int)) ∧ ak_MV e 0 d [ak_T u, ρ1, ρ2, ak_T u, ak_T u + 1] 164 [am_r 33, am_i (h.1 34 x3.toNat), am_i 0, am_i 0] h (fun h1 =>
    (0 ≤ h1.1 33 9 →
      ak_MI e 0 d [ak_T u, ρ1, ρ2, ak_T u, ak_T u + 1] 88 [am_r 32, am_i x3, am_i 0, am_i (h1.1 33 9), am_i (h1.1 33 10)] h1 (fun v3 h2 =>
        ak_MI e 0 d [ak_T u, ρ1, ρ2, ak_T u, ak_T u + 1] 89 [am_r 32, am_i v3] h2 (fun v5 h4 =>
          ak_W0 e 0 d 90 [ak_T u, ρ1, ρ2, ak_T u, ak_T u + 1] 56 [some (am_r 32), some (am_i x1), some (am_i x2), none, none] [am_i v5] h4 (ak_qi Q X)) (fun _ _ => False)) (fun _ _ => False))
    ∧ (h1.1 33 9 < 0 →
      ak_W0 e 0 d 90 [ak_T u, ρ1, ρ2, ak_T u, ak_T u + 1] 56 [some (am_r 32), some (am_i x1), some (am_i x2), none, none] [am_i ((-1))] h1 (ak_qi Q X))) (fun _ _ => False)) :
  ak_W0 e 0 d 90 [ak_T u, ρ1, ρ2, ak_T u, ak_T u + 1] 0 [some (am_r 32), some (am_i x1), some (am_i x2), some (am_i x3), none] [] h (ak_qi Q X) := by
  rcases hu with rfl | rfl
  · exact ak_k_ok am_cc90 400 [(56, [true, true, true, false, false])] w
  · exact ak_k_ok am_cc90 400 [(56, [true, true, true, false, false])] w
set_option maxRecDepth 100000 in
theorem am_k90_56 {e : ak_X3} {d : Nat} {ρ1 ρ2 : Nat} {h : ak_S} {Q : Int → ak_S → Prop} {X : Nat → ak_S → Prop} {u : Nat} (hu : u = 0 ∨ u = 1) {x1 x2 y0 : Int} (w :
  (y0 < 0 →
    ak_MV e 0 d [ak_T u, ρ1, ρ2, ak_T u, ak_T u + 1] 77 [am_r 32, am_i 1, am_i 1, am_l x1] h (fun h1 =>
      Q ((-1)) h1) (fun _ _ => False))
  ∧ (0 ≤ y0 →
    (0 < h.1 69 8 →
      ak_MV e 0 d [ak_T u, ρ1, ρ2, ak_T u, ak_T u + 1] 77 [am_r 32, am_i 1, am_i 1, am_l x1] h (fun h2 =>
        Q ((-1)) h2) (fun _ _ => False))
    ∧ (h.1 69 8 ≤ 0 →
      (0 ≤ y0 ∧ y0 < (40 : Int)) ∧ (h.1 (ak_T u + 12) y0.toNat = 2 →
        ak_MV e 0 d [ak_T u, ρ1, ρ2, ak_T u, ak_T u + 1] 73 [am_r 32, am_i 1, am_l x1] ((am_up h.1 32 10 (am_w32 ((h.1 32 10) - x2))), h.2) (fun h3 =>
          ak_MV e 0 d [ak_T u, ρ1, ρ2, ak_T u, ak_T u + 1] 73 [am_r 32, am_i 1, am_l x2] h3 (fun h4 =>
            ((1 : Int) = 0 ∨ (1 : Int) = 1) ∧ Q y0 ((am_up (am_up (am_up (am_up h4.1 32 13 2) 32 14 (h4.1 33 9)) 32 15 (h4.1 33 10)) 32 16 1), h4.2)) (fun _ _ => False)) (fun _ _ => False))
      ∧ (h.1 (ak_T u + 12) y0.toNat ≠ 2 →
        ak_MV e 0 d [ak_T u, ρ1, ρ2, ak_T u, ak_T u + 1] 77 [am_r 32, am_i 1, am_i 1, am_l x1] h (fun h5 =>
          Q ((-1)) h5) (fun _ _ => False))))) :
  ak_W0 e 0 d 90 [ak_T u, ρ1, ρ2, ak_T u, ak_T u + 1] 56 [some (am_r 32), some (am_i x1), some (am_i x2), none, none] [am_i y0] h (ak_qi Q X) := by
  rcases hu with rfl | rfl
  · exact ak_k_ok am_cc90 400 [(56, [true, true, true, false, false])] w
  · exact ak_k_ok am_cc90 400 [(56, [true, true, true, false, false])] w
theorem am_cc91 : am_co am_P 91 = am_lk am_rw91 ∧ am_hl am_P 91 = [] ∧ am_rtag (am_re am_P 91) = 0 := ⟨rfl, rfl, rfl⟩
set_option maxRecDepth 100000 in
theorem am_k91_0 {e : ak_X3} {d : Nat} {ρ1 ρ2 : Nat} {h : ak_S} {Q : ak_S → Prop} {X : Nat → ak_S → Prop} {u : Nat} (hu : u = 0 ∨ u = 1) {x1 : Int} (w :
  ak_MI e 0 d [ak_T u, ρ1, ρ2, ak_T u, ak_T u + 1] 74 [am_r 32] h (fun v2 h1 =>
    ak_MI e 0 d [ak_T u, ρ1, ρ2, ak_T u, ak_T u + 1] 74 [am_r 32] h1 (fun v4 h3 =>
      (0 ≤ v4 ∧ v4 < (12600 : Int)) ∧ (0 ≤ v4 ∧ v4 < (12600 : Int)) ∧ ak_MI e 0 d [ak_T u, ρ1, ρ2, ak_T u, ak_T u + 1] 152 [am_r 33, am_i (h3.1 108 v4.toNat), am_l (h3.2.1 109 v4.toNat)] h3 (fun v6 h5 =>
        (0 ≤ x1 ∧ x1 < (150 : Int)) ∧ (0 ≤ v6 ∧ v6 < (200 : Int)) ∧ ak_MV e 0 d [ak_T u, ρ1, ρ2, ak_T u, ak_T u + 1] 111 [am_r 44, am_r 33, am_i x1, am_i (h5.1 (ak_T u + 16) x1.toNat), am_i (h5.1 34 v6.toNat), am_i 0] h5 (fun h7 =>
          (0 ≤ h7.1 44 7 →
            ak_MI e 0 d [ak_T u, ρ1, ρ2, ak_T u, ak_T u + 1] 88 [am_r 32, am_i v6, am_i (h5.1 (ak_T u + 16) x1.toNat), am_i (h7.1 44 7), am_i (h7.1 44 8)] h7 (fun v9 h8 =>
              ak_MI e 0 d [ak_T u, ρ1, ρ2, ak_T u, ak_T u + 1] 89 [am_r 32, am_i v9] h8 (fun v11 h10 =>
                (v11 < 0 →
                  (0 ≤ v2 ∧ v2 < (12600 : Int)) ∧ (0 ≤ v9 ∧ v9 < (2400 : Int)) ∧ (0 ≤ v2 ∧ v2 < (12600 : Int)) ∧ (0 ≤ v9 ∧ v9 < (2400 : Int)) ∧ Q ((am_up h10.1 35 v9.toNat (h10.1 108 v2.toNat)), (am_up h10.2.1 36 v9.toNat (h10.2.1 109 v2.toNat)), h10.2.2))
                ∧ (0 ≤ v11 →
                  ak_MV e 0 d [ak_T u, ρ1, ρ2, ak_T u, ak_T u + 1] 77 [am_r 32, am_i 11, am_i 0, am_l 0] h10 (fun h12 =>
                    Q h12) (fun _ _ => False))) (fun _ _ => False)) (fun _ _ => False))
          ∧ (h7.1 44 7 < 0 →
            ak_MV e 0 d [ak_T u, ρ1, ρ2, ak_T u, ak_T u + 1] 77 [am_r 32, am_i 1, am_i 1, am_l (h5.1 (ak_T u + 16) x1.toNat)] h7 (fun h13 =>
              Q h13) (fun _ _ => False))) (fun _ _ => False)) (fun _ _ => False)) (fun _ _ => False)) (fun _ _ => False)) :
  ak_W0 e 0 d 91 [ak_T u, ρ1, ρ2, ak_T u, ak_T u + 1] 0 [some (am_r 32), some (am_i x1), none, none, none, none, none] [] h (ak_qv Q X) := by
  rcases hu with rfl | rfl
  · exact ak_k_ok am_cc91 400 [] w
  · exact ak_k_ok am_cc91 400 [] w
theorem am_cc92 : am_co am_P 92 = am_lk am_rw92 ∧ am_hl am_P 92 = [] ∧ am_rtag (am_re am_P 92) = 0 := ⟨rfl, rfl, rfl⟩
set_option maxRecDepth 100000 in
theorem am_k92_0 {e : ak_X3} {d : Nat} {ρ1 ρ2 : Nat} {h : ak_S} {Q : ak_S → Prop} {X : Nat → ak_S → Prop} {u : Nat} (hu : u = 0 ∨ u = 1) {x1 : Int} (w :
  (0 ≤ (if 0 < am_w32 ((am_w32 ((h.1 32 10) - x1)) - 1) then am_w32 ((am_w32 ((h.1 32 10) - x1)) - 1) else 0) ∧ (if 0 < am_w32 ((am_w32 ((h.1 32 10) - x1)) - 1) then am_w32 ((am_w32 ((h.1 32 10) - x1)) - 1) else 0) < (12600 : Int)) ∧ (0 ≤ (if 0 < am_w32 ((am_w32 ((h.1 32 10) - x1)) - 1) then am_w32 ((am_w32 ((h.1 32 10) - x1)) - 1) else 0) ∧ (if 0 < am_w32 ((am_w32 ((h.1 32 10) - x1)) - 1) then am_w32 ((am_w32 ((h.1 32 10) - x1)) - 1) else 0) < (12600 : Int)) ∧ ak_MI e 0 d [ak_T u, ρ1, ρ2, ak_T u, ak_T u + 1] 144 [am_r 49, am_i (h.1 108 ((if 0 < am_w32 ((am_w32 ((h.1 32 10) - x1)) - 1) then am_w32 ((am_w32 ((h.1 32 10) - x1)) - 1) else 0)).toNat), am_l (h.2.1 109 ((if 0 < am_w32 ((am_w32 ((h.1 32 10) - x1)) - 1) then am_w32 ((am_w32 ((h.1 32 10) - x1)) - 1) else 0)).toNat)] h (fun v2 h1 =>
    (0 ≤ v2 →
      (0 ≤ v2 ∧ v2 < (500 : Int)) ∧ (0 ≤ h1.1 61 v2.toNat ∧ h1.1 61 v2.toNat < (60 : Int)) ∧ (h1.1 (ak_T u + 18) (h1.1 61 v2.toNat).toNat = x1 →
        ((0 : Int) = 0 ∨ (0 : Int) = 1) ∧ (0 ≤ v2 ∧ v2 < (500 : Int)) ∧ (0 ≤ h1.1 61 v2.toNat ∧ h1.1 61 v2.toNat < (60 : Int)) ∧ (0 ≤ h1.1 61 v2.toNat ∧ h1.1 61 v2.toNat < (60 : Int)) ∧ ak_MI e 0 d [ak_T u, ρ1, ρ2, ak_T u, ak_T u + 1] 94 [am_r 32, am_i (h1.1 62 v2.toNat), am_i (h1.1 (ak_T u + 20) (h1.1 61 v2.toNat).toNat), am_i (h1.1 (ak_T u + 19) (h1.1 61 v2.toNat).toNat)] ((am_up (am_up h1.1 32 13 x1) 32 16 0), h1.2) (fun v4 h3 =>
          Q h3) (fun _ _ => False))
      ∧ (h1.1 (ak_T u + 18) (h1.1 61 v2.toNat).toNat ≠ x1 →
        ak_MV e 0 d [ak_T u, ρ1, ρ2, ak_T u, ak_T u + 1] 77 [am_r 32, am_i 2, am_i 0, am_l 0] h1 (fun h5 =>
          Q h5) (fun _ _ => False)))
    ∧ (v2 < 0 →
      ak_MV e 0 d [ak_T u, ρ1, ρ2, ak_T u, ak_T u + 1] 77 [am_r 32, am_i 10, am_i 0, am_l 0] h1 (fun h6 =>
        Q h6) (fun _ _ => False))) (fun _ _ => False)) :
  ak_W0 e 0 d 92 [ak_T u, ρ1, ρ2, ak_T u, ak_T u + 1] 0 [some (am_r 32), some (am_i x1), none, none, none] [] h (ak_qv Q X) := by
  rcases hu with rfl | rfl
  · exact ak_k_ok am_cc92 400 [] w
  · exact ak_k_ok am_cc92 400 [] w
theorem am_cc93 : am_co am_P 93 = am_lk am_rw93 ∧ am_hl am_P 93 = [] ∧ am_rtag (am_re am_P 93) = 0 := ⟨rfl, rfl, rfl⟩
set_option maxRecDepth 100000 in
theorem am_k93_0 {e : ak_X3} {d : Nat} {ρ1 ρ2 : Nat} {h : ak_S} {Q : ak_S → Prop} {X : Nat → ak_S → Prop} {u : Nat} (hu : u = 0 ∨ u = 1) {x1 : Int} (w :
  (0 ≤ x1 ∧ x1 < (40 : Int)) ∧ ak_MI e 0 d [ak_T u, ρ1, ρ2, ak_T u, ak_T u + 1] 94 [am_r 32, am_i ((-1)), am_i x1, am_i (h.1 (ak_T u + 13) x1.toNat)] h (fun v2 h1 =>
    (v2 < 0 →
      Q h1)
    ∧ (0 ≤ v2 →
      (0 ≤ (if 0 < am_w32 ((am_w32 ((h.1 32 10) - (h.1 32 13))) - 1) then am_w32 ((am_w32 ((h.1 32 10) - (h.1 32 13))) - 1) else 0) ∧ (if 0 < am_w32 ((am_w32 ((h.1 32 10) - (h.1 32 13))) - 1) then am_w32 ((am_w32 ((h.1 32 10) - (h.1 32 13))) - 1) else 0) < (12600 : Int)) ∧ (0 ≤ (if 0 < am_w32 ((am_w32 ((h.1 32 10) - (h.1 32 13))) - 1) then am_w32 ((am_w32 ((h.1 32 10) - (h.1 32 13))) - 1) else 0) ∧ (if 0 < am_w32 ((am_w32 ((h.1 32 10) - (h.1 32 13))) - 1) then am_w32 ((am_w32 ((h.1 32 10) - (h.1 32 13))) - 1) else 0) < (12600 : Int)) ∧ ak_MV e 0 d [ak_T u, ρ1, ρ2, ak_T u, ak_T u + 1] 141 [am_r 49, am_i v2, am_i (h1.1 108 ((if 0 < am_w32 ((am_w32 ((h.1 32 10) - (h.1 32 13))) - 1) then am_w32 ((am_w32 ((h.1 32 10) - (h.1 32 13))) - 1) else 0)).toNat), am_l (h1.2.1 109 ((if 0 < am_w32 ((am_w32 ((h.1 32 10) - (h.1 32 13))) - 1) then am_w32 ((am_w32 ((h.1 32 10) - (h.1 32 13))) - 1) else 0)).toNat), am_i (h1.1 32 14), am_i (h1.1 32 15)] h1 (fun h3 =>
        (0 ≤ (if 0 < am_w32 ((am_w32 ((h.1 32 10) - (h.1 32 13))) - 1) then am_w32 ((am_w32 ((h.1 32 10) - (h.1 32 13))) - 1) else 0) ∧ (if 0 < am_w32 ((am_w32 ((h.1 32 10) - (h.1 32 13))) - 1) then am_w32 ((am_w32 ((h.1 32 10) - (h.1 32 13))) - 1) else 0) < (12600 : Int)) ∧ (0 ≤ (if 0 < am_w32 ((am_w32 ((h.1 32 10) - (h.1 32 13))) - 1) then am_w32 ((am_w32 ((h.1 32 10) - (h.1 32 13))) - 1) else 0) ∧ (if 0 < am_w32 ((am_w32 ((h.1 32 10) - (h.1 32 13))) - 1) then am_w32 ((am_w32 ((h.1 32 10) - (h.1 32 13))) - 1) else 0) < (12600 : Int)) ∧ ak_MV e 0 d [ak_T u, ρ1, ρ2, ak_T u, ak_T u + 1] 66 [am_r 63, am_i x1, am_i (h3.1 108 ((if 0 < am_w32 ((am_w32 ((h.1 32 10) - (h.1 32 13))) - 1) then am_w32 ((am_w32 ((h.1 32 10) - (h.1 32 13))) - 1) else 0)).toNat), am_l (h3.2.1 109 ((if 0 < am_w32 ((am_w32 ((h.1 32 10) - (h.1 32 13))) - 1) then am_w32 ((am_w32 ((h.1 32 10) - (h.1 32 13))) - 1) else 0)).toNat), am_i (h3.1 32 14)] h3 (fun h4 =>
          Q h4) (fun _ _ => False)) (fun _ _ => False))) (fun _ _ => False)) :
  ak_W0 e 0 d 93 [ak_T u, ρ1, ρ2, ak_T u, ak_T u + 1] 0 [some (am_r 32), some (am_i x1), none, none] [] h (ak_qv Q X) := by
  rcases hu with rfl | rfl
  · exact ak_k_ok am_cc93 400 [] w
  · exact ak_k_ok am_cc93 400 [] w
theorem am_cc94 : am_co am_P 94 = am_lk am_rw94 ∧ am_hl am_P 94 = [] ∧ am_rtag (am_re am_P 94) = 1 := ⟨rfl, rfl, rfl⟩
set_option maxRecDepth 100000 in
theorem am_k94_0 {e : ak_X3} {d : Nat} {ρ1 ρ2 : Nat} {h : ak_S} {Q : Int → ak_S → Prop} {X : Nat → ak_S → Prop} {u : Nat} (hu : u = 0 ∨ u = 1) {x1 x2 x3 : Int} (w :
  (60 ≤ h.1 69 7 →
    (0 ≤ ((-1) : Int) →
      ak_W0 e 0 d 94 [ak_T u, ρ1, ρ2, ak_T u, ak_T u + 1] 65 [some (am_r 32), none, some (am_i x2), some (am_i x3), some (am_i ((if 0 < am_w32 ((am_w32 ((h.1 32 10) - (h.1 32 13))) - 1) then am_w32 ((am_w32 ((h.1 32 10) - (h.1 32 13))) - 1) else 0))), some (am_i ((-1))), some (am_i 0)] [] h (ak_qi Q X))
    ∧ (((-1) : Int) < 0 →
      Q ((-1)) ((am_up h.1 32 11 3), h.2)))
  ∧ (h.1 69 7 < 60 →
    ak_MI e 0 d [ak_T u, ρ1, ρ2, ak_T u, ak_T u + 1] 140 [am_r 49, am_i (h.1 69 7), am_i x1] h (fun v2 h1 =>
      (0 ≤ v2 →
        ak_W0 e 0 d 94 [ak_T u, ρ1, ρ2, ak_T u, ak_T u + 1] 65 [some (am_r 32), none, some (am_i x2), some (am_i x3), some (am_i ((if 0 < am_w32 ((am_w32 ((h.1 32 10) - (h.1 32 13))) - 1) then am_w32 ((am_w32 ((h.1 32 10) - (h.1 32 13))) - 1) else 0))), some (am_i v2), some (am_i 0)] [] h1 (ak_qi Q X))
      ∧ (v2 < 0 →
        Q ((-1)) ((am_up h1.1 32 11 3), h1.2))) (fun _ _ => False))) :
  ak_W0 e 0 d 94 [ak_T u, ρ1, ρ2, ak_T u, ak_T u + 1] 0 [some (am_r 32), some (am_i x1), some (am_i x2), some (am_i x3), none, none, none] [] h (ak_qi Q X) := by
  rcases hu with rfl | rfl
  · exact ak_k_ok am_cc94 400 [(65, [true, false, true, true, true, true, true])] w
  · exact ak_k_ok am_cc94 400 [(65, [true, false, true, true, true, true, true])] w
set_option maxRecDepth 100000 in
theorem am_k94_65 {e : ak_X3} {d : Nat} {ρ1 ρ2 : Nat} {h : ak_S} {Q : Int → ak_S → Prop} {X : Nat → ak_S → Prop} {u : Nat} (hu : u = 0 ∨ u = 1) {x2 x3 x4 x5 x6 : Int} (w :
  (h.1 32 13 ≤ x6 →
    ak_MV e 0 d [ak_T u, ρ1, ρ2, ak_T u, ak_T u + 1] 49 [am_r 69, am_i x5, am_i x2, am_i x3, am_i x4, am_i (h.1 77 4), am_i (h.1 32 16)] ((am_up h.1 32 10 x4), h.2) (fun h1 =>
      Q x5 h1) (fun _ _ => False))
  ∧ (x6 < h.1 32 13 →
    (0 ≤ am_w32 ((am_w32 (x4 + 1)) + x6) ∧ am_w32 ((am_w32 (x4 + 1)) + x6) < (12600 : Int)) ∧ (0 ≤ am_w32 ((am_w32 (x4 + 1)) + x6) ∧ am_w32 ((am_w32 (x4 + 1)) + x6) < (12600 : Int)) ∧ ak_MV e 0 d [ak_T u, ρ1, ρ2, ak_T u, ak_T u + 1] 146 [am_r 49, am_i x5, am_i x6, am_i (h.1 108 (am_w32 ((am_w32 (x4 + 1)) + x6)).toNat), am_l (h.2.1 109 (am_w32 ((am_w32 (x4 + 1)) + x6)).toNat)] h (fun h2 =>
      ak_W0 e 0 d 94 [ak_T u, ρ1, ρ2, ak_T u, ak_T u + 1] 65 [some (am_r 32), none, some (am_i x2), some (am_i x3), some (am_i x4), some (am_i x5), some (am_i (am_w32 (x6 + 1)))] [] h2 (ak_qi Q X)) (fun _ _ => False))) :
  ak_W0 e 0 d 94 [ak_T u, ρ1, ρ2, ak_T u, ak_T u + 1] 65 [some (am_r 32), none, some (am_i x2), some (am_i x3), some (am_i x4), some (am_i x5), some (am_i x6)] [] h (ak_qi Q X) := by
  rcases hu with rfl | rfl
  · exact ak_k_ok am_cc94 400 [(65, [true, false, true, true, true, true, true])] w
  · exact ak_k_ok am_cc94 400 [(65, [true, false, true, true, true, true, true])] w
theorem am_cc95 : am_co am_P 95 = am_lk am_rw95 ∧ am_hl am_P 95 = [] ∧ am_rtag (am_re am_P 95) = 0 := ⟨rfl, rfl, rfl⟩
set_option maxRecDepth 100000 in
theorem am_k95_0 {e : ak_X3} {d : Nat} {ρ1 ρ2 : Nat} {h : ak_S} {Q : ak_S → Prop} {X : Nat → ak_S → Prop} {u : Nat} (hu : u = 0 ∨ u = 1) {x1 x2 : Int} (w :
  (x1 = 24 →
    ak_W0 e 0 d 95 [ak_T u, ρ1, ρ2, ak_T u, ak_T u + 1] 12 [some (am_r 32), some (am_i x1), some (am_i x2), none, none, none, none, none, none] [] h (ak_qv Q X))
  ∧ (x1 ≠ 24 →
    (x1 ≠ 25 →
      (x1 = 22 →
        ak_W0 e 0 d 95 [ak_T u, ρ1, ρ2, ak_T u, ak_T u + 1] 38 [some (am_r 32), some (am_i x1), some (am_i x2), some (am_i 0), none, none, none, none, none] [am_i 0] h (ak_qv Q X))
      ∧ (x1 ≠ 22 →
        (x1 ≠ 23 →
          ak_MI e 0 d [ak_T u, ρ1, ρ2, ak_T u, ak_T u + 1] 74 [am_r 32] h (fun v2 h1 =>
            ak_W0 e 0 d 95 [ak_T u, ρ1, ρ2, ak_T u, ak_T u + 1] 38 [some (am_r 32), some (am_i x1), some (am_i x2), some (am_i 0), none, none, none, none, none] [am_i v2] h1 (ak_qv Q X)) (fun _ _ => False))
        ∧ (x1 = 23 →
          ak_W0 e 0 d 95 [ak_T u, ρ1, ρ2, ak_T u, ak_T u + 1] 38 [some (am_r 32), some (am_i x1), some (am_i x2), some (am_i 0), none, none, none, none, none] [am_i 0] h (ak_qv Q X))))
    ∧ (x1 = 25 →
      ak_W0 e 0 d 95 [ak_T u, ρ1, ρ2, ak_T u, ak_T u + 1] 12 [some (am_r 32), some (am_i x1), some (am_i x2), none, none, none, none, none, none] [] h (ak_qv Q X)))) :
  ak_W0 e 0 d 95 [ak_T u, ρ1, ρ2, ak_T u, ak_T u + 1] 0 [some (am_r 32), some (am_i x1), some (am_i x2), none, none, none, none, none, none] [] h (ak_qv Q X) := by
  rcases hu with rfl | rfl
  · exact ak_k_ok am_cc95 400 [(12, [true, true, true, false, false, false, false, false, false]), (38, [true, true, true, true, false, false, false, false, false]), (98, [true, true, true, false, true, false, true, false, false])] w
  · exact ak_k_ok am_cc95 400 [(12, [true, true, true, false, false, false, false, false, false]), (38, [true, true, true, true, false, false, false, false, false]), (98, [true, true, true, false, true, false, true, false, false])] w
set_option maxRecDepth 100000 in
theorem am_k95_12 {e : ak_X3} {d : Nat} {ρ1 ρ2 : Nat} {h : ak_S} {Q : ak_S → Prop} {X : Nat → ak_S → Prop} {u : Nat} (hu : u = 0 ∨ u = 1) {x1 x2 : Int} (w :
  (x1 = 22 →
    ak_W0 e 0 d 95 [ak_T u, ρ1, ρ2, ak_T u, ak_T u + 1] 38 [some (am_r 32), some (am_i x1), some (am_i x2), some (am_i 1), none, none, none, none, none] [am_i 0] h (ak_qv Q X))
  ∧ (x1 ≠ 22 →
    (x1 ≠ 23 →
      ak_MI e 0 d [ak_T u, ρ1, ρ2, ak_T u, ak_T u + 1] 74 [am_r 32] h (fun v2 h1 =>
        ak_W0 e 0 d 95 [ak_T u, ρ1, ρ2, ak_T u, ak_T u + 1] 38 [some (am_r 32), some (am_i x1), some (am_i x2), some (am_i 1), none, none, none, none, none] [am_i v2] h1 (ak_qv Q X)) (fun _ _ => False))
    ∧ (x1 = 23 →
      ak_W0 e 0 d 95 [ak_T u, ρ1, ρ2, ak_T u, ak_T u + 1] 38 [some (am_r 32), some (am_i x1), some (am_i x2), some (am_i 1), none, none, none, none, none] [am_i 0] h (ak_qv Q X)))) :
  ak_W0 e 0 d 95 [ak_T u, ρ1, ρ2, ak_T u, ak_T u + 1] 12 [some (am_r 32), some (am_i x1), some (am_i x2), none, none, none, none, none, none] [] h (ak_qv Q X) := by
  rcases hu with rfl | rfl
  · exact ak_k_ok am_cc95 400 [(12, [true, true, true, false, false, false, false, false, false]), (38, [true, true, true, true, false, false, false, false, false]), (98, [true, true, true, false, true, false, true, false, false])] w
  · exact ak_k_ok am_cc95 400 [(12, [true, true, true, false, false, false, false, false, false]), (38, [true, true, true, true, false, false, false, false, false]), (98, [true, true, true, false, true, false, true, false, false])] w
set_option maxRecDepth 100000 in
theorem am_k95_38 {e : ak_X3} {d : Nat} {ρ1 ρ2 : Nat} {h : ak_S} {Q : ak_S → Prop} {X : Nat → ak_S → Prop} {u : Nat} (hu : u = 0 ∨ u = 1) {x1 x2 x3 y0 : Int} (w :
  ak_MI e 0 d [ak_T u, ρ1, ρ2, ak_T u, ak_T u + 1] 74 [am_r 32] h (fun v2 h1 =>
    (0 ≤ v2 ∧ v2 < (12600 : Int)) ∧ (0 ≤ v2 ∧ v2 < (12600 : Int)) ∧ ak_MI e 0 d [ak_T u, ρ1, ρ2, ak_T u, ak_T u + 1] 151 [am_r 33, am_i (h1.1 108 v2.toNat), am_l (h1.2.1 109 v2.toNat)] h1 (fun v4 h3 =>
      (x3 = 0 →
        ak_W0 e 0 d 95 [ak_T u, ρ1, ρ2, ak_T u, ak_T u + 1] 98 [some (am_r 32), some (am_i x1), some (am_i x2), none, some (am_i y0), none, some (am_i v4), none, none] [am_i 0] h3 (ak_qv Q X))
      ∧ (x3 ≠ 0 →
        (0 ≤ y0 ∧ y0 < (12600 : Int)) ∧ (0 ≤ y0 ∧ y0 < (12600 : Int)) ∧ ak_MI e 0 d [ak_T u, ρ1, ρ2, ak_T u, ak_T u + 1] 151 [am_r 33, am_i (h3.1 108 y0.toNat), am_l (h3.2.1 109 y0.toNat)] h3 (fun v6 h5 =>
          ak_W0 e 0 d 95 [ak_T u, ρ1, ρ2, ak_T u, ak_T u + 1] 98 [some (am_r 32), some (am_i x1), some (am_i x2), none, some (am_i y0), none, some (am_i v4), none, none] [am_i v6] h5 (ak_qv Q X)) (fun _ _ => False))) (fun _ _ => False)) (fun _ _ => False)) :
  ak_W0 e 0 d 95 [ak_T u, ρ1, ρ2, ak_T u, ak_T u + 1] 38 [some (am_r 32), some (am_i x1), some (am_i x2), some (am_i x3), none, none, none, none, none] [am_i y0] h (ak_qv Q X) := by
  rcases hu with rfl | rfl
  · exact ak_k_ok am_cc95 400 [(12, [true, true, true, false, false, false, false, false, false]), (38, [true, true, true, true, false, false, false, false, false]), (98, [true, true, true, false, true, false, true, false, false])] w
  · exact ak_k_ok am_cc95 400 [(12, [true, true, true, false, false, false, false, false, false]), (38, [true, true, true, true, false, false, false, false, false]), (98, [true, true, true, false, true, false, true, false, false])] w
set_option maxRecDepth 100000 in
theorem am_k95_98 {e : ak_X3} {d : Nat} {ρ1 ρ2 : Nat} {h : ak_S} {Q : ak_S → Prop} {X : Nat → ak_S → Prop} {u : Nat} (hu : u = 0 ∨ u = 1) {x1 x2 x4 x6 y0 : Int} (w :
  (x6 < 0 →
    ak_MV e 0 d [ak_T u, ρ1, ρ2, ak_T u, ak_T u + 1] 77 [am_r 32, am_i 6, am_i 0, am_l 0] h (fun h1 =>
      Q h1) (fun _ _ => False))
  ∧ (0 ≤ x6 →
    (0 ≤ y0 →
      True ∧
        ((x1 < 21 ∨ 24 < x1) → ak_MI e 0 d [ak_T u, ρ1, ρ2, ak_T u, ak_T u + 1] 71 [am_r 32, am_i 4, am_i x6, am_i y0, am_i 0, am_l 0] h (fun v3 h2 =>
          (v3 = 0 →
            Q h2)
          ∧ (v3 ≠ 0 →
            ak_MV e 0 d [ak_T u, ρ1, ρ2, ak_T u, ak_T u + 1] 77 [am_r 32, am_i v3, am_i 0, am_l 0] h2 (fun h4 =>
              Q h4) (fun _ _ => False))) (fun _ _ => False)) ∧
        (x1 = 21 → (0 ≤ x4 ∧ x4 < (12600 : Int)) ∧ (0 ≤ x4 ∧ x4 < (12600 : Int)) ∧ ak_MI e 0 d [ak_T u, ρ1, ρ2, ak_T u, ak_T u + 1] 71 [am_r 32, am_i 0, am_i x6, am_i x2, am_i (h.1 108 x4.toNat), am_l (h.2.1 109 x4.toNat)] h (fun v6 h5 =>
          (v6 = 0 →
            Q h5)
          ∧ (v6 ≠ 0 →
            ak_MV e 0 d [ak_T u, ρ1, ρ2, ak_T u, ak_T u + 1] 77 [am_r 32, am_i v6, am_i 0, am_l 0] h5 (fun h7 =>
              Q h7) (fun _ _ => False))) (fun _ _ => False)) ∧
        (x1 = 21 + 1 → ak_MI e 0 d [ak_T u, ρ1, ρ2, ak_T u, ak_T u + 1] 71 [am_r 32, am_i 1, am_i x6, am_i ((Int32.ofInt x2 &&& Int32.ofInt 127).toInt), am_i 4, am_l ((Int32.ofInt x2 >>> (Int32.ofInt 7 &&& 31)).toInt)] h (fun v9 h8 =>
          (v9 = 0 →
            Q h8)
          ∧ (v9 ≠ 0 →
            ak_MV e 0 d [ak_T u, ρ1, ρ2, ak_T u, ak_T u + 1] 77 [am_r 32, am_i v9, am_i 0, am_l 0] h8 (fun h10 =>
              Q h10) (fun _ _ => False))) (fun _ _ => False)) ∧
        (x1 = 21 + 1 + 1 → ak_MI e 0 d [ak_T u, ρ1, ρ2, ak_T u, ak_T u + 1] 71 [am_r 32, am_i 2, am_i x6, am_i x2, am_i 0, am_l 0] h (fun v12 h11 =>
          (v12 = 0 →
            Q h11)
          ∧ (v12 ≠ 0 →
            ak_MV e 0 d [ak_T u, ρ1, ρ2, ak_T u, ak_T u + 1] 77 [am_r 32, am_i v12, am_i 0, am_l 0] h11 (fun h13 =>
              Q h13) (fun _ _ => False))) (fun _ _ => False)) ∧
        (x1 = 21 + 1 + 1 + 1 → ak_MI e 0 d [ak_T u, ρ1, ρ2, ak_T u, ak_T u + 1] 71 [am_r 32, am_i 3, am_i x6, am_i y0, am_i 0, am_l 0] h (fun v15 h14 =>
          (v15 = 0 →
            Q h14)
          ∧ (v15 ≠ 0 →
            ak_MV e 0 d [ak_T u, ρ1, ρ2, ak_T u, ak_T u + 1] 77 [am_r 32, am_i v15, am_i 0, am_l 0] h14 (fun h16 =>
              Q h16) (fun _ _ => False))) (fun _ _ => False)) ∧ True)
    ∧ (y0 < 0 →
      ak_MV e 0 d [ak_T u, ρ1, ρ2, ak_T u, ak_T u + 1] 77 [am_r 32, am_i 6, am_i 0, am_l 0] h (fun h17 =>
        Q h17) (fun _ _ => False)))) :
  ak_W0 e 0 d 95 [ak_T u, ρ1, ρ2, ak_T u, ak_T u + 1] 98 [some (am_r 32), some (am_i x1), some (am_i x2), none, some (am_i x4), none, some (am_i x6), none, none] [am_i y0] h (ak_qv Q X) := by
  rcases hu with rfl | rfl
  · exact ak_k_ok am_cc95 400 [(12, [true, true, true, false, false, false, false, false, false]), (38, [true, true, true, true, false, false, false, false, false]), (98, [true, true, true, false, true, false, true, false, false])] w
  · exact ak_k_ok am_cc95 400 [(12, [true, true, true, false, false, false, false, false, false]), (38, [true, true, true, true, false, false, false, false, false]), (98, [true, true, true, false, true, false, true, false, false])] w
theorem am_cc96 : am_co am_P 96 = am_lk am_rw96 ∧ am_hl am_P 96 = [] ∧ am_rtag (am_re am_P 96) = 0 := ⟨rfl, rfl, rfl⟩
set_option maxRecDepth 100000 in
theorem am_k96_0 {e : ak_X3} {d : Nat} {ρ1 ρ2 : Nat} {h : ak_S} {Q : ak_S → Prop} {X : Nat → ak_S → Prop} {u : Nat} (hu : u = 0 ∨ u = 1) {x1 x2 : Int} (w :
  True ∧
    ((x1 ≠ 26 ∧ x1 ≠ 30 ∧ True) → ak_MI e 0 d [ak_T u, ρ1, ρ2, ak_T u, ak_T u + 1] 74 [am_r 32] h (fun v2 h1 =>
      True ∧
        ((x1 < 27 ∨ 31 < x1) → Q h1) ∧
        (x1 = 27 → (0 ≤ h1.1 32 12 ∧ h1.1 32 12 < (60 : Int)) ∧ (0 ≤ v2 ∧ v2 < (12600 : Int)) ∧ (0 ≤ v2 ∧ v2 < (12600 : Int)) ∧ ak_MV e 0 d [ak_T u, ρ1, ρ2, ak_T u, ak_T u + 1] 146 [am_r 49, am_i (h1.1 70 (h1.1 32 12).toNat), am_i x2, am_i (h1.1 108 v2.toNat), am_l (h1.2.1 109 v2.toNat)] h1 (fun h3 =>
          Q h3) (fun _ _ => False)) ∧
        (x1 = 27 + 1 → Q h1) ∧
        (x1 = 27 + 1 + 1 → (0 ≤ v2 ∧ v2 < (12600 : Int)) ∧ (0 ≤ v2 ∧ v2 < (12600 : Int)) ∧ ak_MV e 0 d [ak_T u, ρ1, ρ2, ak_T u, ak_T u + 1] 65 [am_r 63, am_i (h1.1 108 v2.toNat), am_l (h1.2.1 109 v2.toNat)] h1 (fun h4 =>
          Q h4) (fun _ _ => False)) ∧
        (x1 = 27 + 1 + 1 + 1 → Q h1) ∧
        (x1 = 27 + 1 + 1 + 1 + 1 → ak_MI e 0 d [ak_T u, ρ1, ρ2, ak_T u, ak_T u + 1] 75 [am_r 32, am_i v2] h1 (fun v6 h5 =>
          (v6 ≠ 0 →
            Q h5)
          ∧ (v6 = 0 →
            (0 ≤ h5.1 32 12 ∧ h5.1 32 12 < (60 : Int)) ∧ Q ((am_up h5.1 72 (h5.1 32 12).toNat x2), h5.2))) (fun _ _ => False)) ∧ True) (fun _ _ => False)) ∧
    (x1 = 26 → ak_MI e 0 d [ak_T u, ρ1, ρ2, ak_T u, ak_T u + 1] 76 [am_r 32] h (fun v8 h7 =>
      (v8 = 0 →
        Q h7)
      ∧ (v8 ≠ 0 →
        (0 ≤ h7.1 32 12 ∧ h7.1 32 12 < (60 : Int)) ∧ Q ((am_up h7.1 73 (h7.1 32 12).toNat x2), h7.2))) (fun _ _ => False)) ∧
    (x1 = 30 → (0 ≤ h.1 32 12 ∧ h.1 32 12 < (60 : Int)) ∧ Q ((am_up h.1 72 (h.1 32 12).toNat x2), h.2)) ∧ True) :
  ak_W0 e 0 d 96 [ak_T u, ρ1, ρ2, ak_T u, ak_T u + 1] 0 [some (am_r 32), some (am_i x1), some (am_i x2), none] [] h (ak_qv Q X) := by
  rcases hu with rfl | rfl
  · exact ak_k_ok am_cc96 400 [] w
  · exact ak_k_ok am_cc96 400 [] w
theorem am_cc97 : am_co am_P 97 = am_lk am_rw97 ∧ am_hl am_P 97 = [] ∧ am_rtag (am_re am_P 97) = 0 := ⟨rfl, rfl, rfl⟩
set_option maxRecDepth 100000 in
theorem am_k97_0 {e : ak_X3} {d : Nat} {ρ1 ρ2 : Nat} {h : ak_S} {Q : ak_S → Prop} {X : Nat → ak_S → Prop} {u : Nat} (hu : u = 0 ∨ u = 1) {x1 x2 : Int} (w :
  True ∧
    ((x1 < 32 ∨ 37 < x1) → ak_MV e 0 d [ak_T u, ρ1, ρ2, ak_T u, ak_T u + 1] 56 [am_r 77] h (fun h1 =>
      Q h1) (fun _ _ => False)) ∧
    (x1 = 32 → ak_MI e 0 d [ak_T u, ρ1, ρ2, ak_T u, ak_T u + 1] 74 [am_r 32] h (fun v3 h2 =>
      ak_MV e 0 d [ak_T u, ρ1, ρ2, ak_T u, ak_T u + 1] 98 [am_r 32, am_i v3] h2 (fun h4 =>
        Q h4) (fun _ _ => False)) (fun _ _ => False)) ∧
    (x1 = 32 + 1 → ak_MI e 0 d [ak_T u, ρ1, ρ2, ak_T u, ak_T u + 1] 74 [am_r 32] h (fun v6 h5 =>
      (0 ≤ v6 ∧ v6 < (12600 : Int)) ∧ (0 ≤ v6 ∧ v6 < (12600 : Int)) ∧ ak_MV e 0 d [ak_T u, ρ1, ρ2, ak_T u, ak_T u + 1] 54 [am_r 77, am_i 2, am_i 0, am_i (h5.1 108 v6.toNat), am_l (h5.2.1 109 v6.toNat), am_i (h5.1 32 12)] h5 (fun h7 =>
        Q h7) (fun _ _ => False)) (fun _ _ => False)) ∧
    (x1 = 32 + 1 + 1 → ak_MV e 0 d [ak_T u, ρ1, ρ2, ak_T u, ak_T u + 1] 54 [am_r 77, am_i 2, am_i 0, am_i 0, am_l 0, am_i (h.1 32 12)] h (fun h8 =>
      Q h8) (fun _ _ => False)) ∧
    (x1 = 32 + 1 + 1 + 1 → ak_MI e 0 d [ak_T u, ρ1, ρ2, ak_T u, ak_T u + 1] 74 [am_r 32] h (fun v10 h9 =>
      (0 ≤ v10 ∧ v10 < (12600 : Int)) ∧ (0 ≤ v10 ∧ v10 < (12600 : Int)) ∧ ak_MV e 0 d [ak_T u, ρ1, ρ2, ak_T u, ak_T u + 1] 77 [am_r 32, am_i x2, am_i (h9.1 108 v10.toNat), am_l (h9.2.1 109 v10.toNat)] h9 (fun h11 =>
        Q h11) (fun _ _ => False)) (fun _ _ => False)) ∧
    (x1 = 32 + 1 + 1 + 1 + 1 → ak_MV e 0 d [ak_T u, ρ1, ρ2, ak_T u, ak_T u + 1] 53 [am_r 77, am_i x2, am_i (h.1 32 12)] h (fun h12 =>
      Q h12) (fun _ _ => False)) ∧
    (x1 = 32 + 1 + 1 + 1 + 1 + 1 → ak_MV e 0 d [ak_T u, ρ1, ρ2, ak_T u, ak_T u + 1] 99 [am_r 32, am_i x2] h (fun h13 =>
      Q h13) (fun _ _ => False)) ∧ True) :
  ak_W0 e 0 d 97 [ak_T u, ρ1, ρ2, ak_T u, ak_T u + 1] 0 [some (am_r 32), some (am_i x1), some (am_i x2), none, none] [] h (ak_qv Q X) := by
  rcases hu with rfl | rfl
  · exact ak_k_ok am_cc97 400 [] w
  · exact ak_k_ok am_cc97 400 [] w
theorem am_cc98 : am_co am_P 98 = am_lk am_rw98 ∧ am_hl am_P 98 = [] ∧ am_rtag (am_re am_P 98) = 0 := ⟨rfl, rfl, rfl⟩
set_option maxRecDepth 100000 in
theorem am_k98_0 {e : ak_X3} {d : Nat} {ρ1 ρ2 : Nat} {h : ak_S} {Q : ak_S → Prop} {X : Nat → ak_S → Prop} {u : Nat} (hu : u = 0 ∨ u = 1) {x1 : Int} (w :
  (0 ≤ h.1 32 12 ∧ h.1 32 12 < (60 : Int)) ∧ (0 ≤ h.1 70 (h.1 32 12).toNat ∧ h.1 70 (h.1 32 12).toNat < (560 : Int)) ∧ (0 ≤ h.1 53 (h.1 70 (h.1 32 12).toNat).toNat ∧ h.1 53 (h.1 70 (h.1 32 12).toNat).toNat < (560 : Int)) ∧ (0 ≤ h.1 54 (h.1 53 (h.1 70 (h.1 32 12).toNat).toNat).toNat →
    (0 ≤ x1 ∧ x1 < (12600 : Int)) ∧ (0 ≤ x1 ∧ x1 < (12600 : Int)) ∧ ak_MV e 0 d [ak_T u, ρ1, ρ2, ak_T u, ak_T u + 1] 54 [am_r 77, am_i 2, am_i 0, am_i (h.1 108 x1.toNat), am_l (h.2.1 109 x1.toNat), am_i (h.1 54 (h.1 53 (h.1 70 (h.1 32 12).toNat).toNat).toNat)] h (fun h1 =>
      Q h1) (fun _ _ => False))
  ∧ (h.1 54 (h.1 53 (h.1 70 (h.1 32 12).toNat).toNat).toNat < 0 →
    ak_MV e 0 d [ak_T u, ρ1, ρ2, ak_T u, ak_T u + 1] 77 [am_r 32, am_i 9, am_i 0, am_l 0] h (fun h2 =>
      Q h2) (fun _ _ => False))) :
  ak_W0 e 0 d 98 [ak_T u, ρ1, ρ2, ak_T u, ak_T u + 1] 0 [some (am_r 32), some (am_i x1), none] [] h (ak_qv Q X) := by
  rcases hu with rfl | rfl
  · exact ak_k_ok am_cc98 400 [] w
  · exact ak_k_ok am_cc98 400 [] w
theorem am_cc99 : am_co am_P 99 = am_lk am_rw99 ∧ am_hl am_P 99 = [] ∧ am_rtag (am_re am_P 99) = 0 := ⟨rfl, rfl, rfl⟩
set_option maxRecDepth 100000 in
theorem am_k99_0 {e : ak_X3} {d : Nat} {ρ1 ρ2 : Nat} {h : ak_S} {Q : ak_S → Prop} {X : Nat → ak_S → Prop} {u : Nat} (hu : u = 0 ∨ u = 1) {x1 : Int} (w :
  (0 ≤ x1 ∧ x1 < (500 : Int)) ∧ (h.1 (ak_T u + 5) x1.toNat < 0 →
    (0 ≤ x1 ∧ x1 < (500 : Int)) ∧ (0 ≤ h.1 32 12 ∧ h.1 32 12 < (60 : Int)) ∧ Q ((am_up (am_up h.1 72 (h.1 32 12).toNat (h.1 (ak_T u + 6) x1.toNat)) 77 4 ((if 0 < am_w32 ((h.1 77 4) - 1) then am_w32 ((h.1 77 4) - 1) else 0))), h.2))
  ∧ (0 ≤ h.1 (ak_T u + 5) x1.toNat →
    ak_MV e 0 d [ak_T u, ρ1, ρ2, ak_T u, ak_T u + 1] 55 [am_r 77] h (fun h1 =>
      (0 ≤ x1 ∧ x1 < (500 : Int)) ∧ (0 ≤ h1.1 32 12 ∧ h1.1 32 12 < (60 : Int)) ∧ Q ((am_up h1.1 72 (h1.1 32 12).toNat (h1.1 (ak_T u + 5) x1.toNat)), h1.2)) (fun _ _ => False))) :
  ak_W0 e 0 d 99 [ak_T u, ρ1, ρ2, ak_T u, ak_T u + 1] 0 [some (am_r 32), some (am_i x1)] [] h (ak_qv Q X) := by
  rcases hu with rfl | rfl
  · exact ak_k_ok am_cc99 400 [] w
  · exact ak_k_ok am_cc99 400 [] w
theorem am_cc100 : am_co am_P 100 = am_lk am_rw100 ∧ am_hl am_P 100 = [] ∧ am_rtag (am_re am_P 100) = 0 := ⟨rfl, rfl, rfl⟩
set_option maxRecDepth 100000 in
theorem am_k100_0 {e : ak_X3} {d : Nat} {ρ1 ρ2 : Nat} {h : ak_S} {Q : ak_S → Prop} {X : Nat → ak_S → Prop} {u : Nat} (hu : u = 0 ∨ u = 1) (w :
  ak_W0 e 0 d 100 [ak_T u, ρ1, ρ2, ak_T u, ak_T u + 1] 2 [some (am_r 32), some (am_i 0), none] [] h (ak_qv Q X)) :
  ak_W0 e 0 d 100 [ak_T u, ρ1, ρ2, ak_T u, ak_T u + 1] 0 [some (am_r 32), none, none] [] h (ak_qv Q X) := by
  rcases hu with rfl | rfl
  · exact ak_k_ok am_cc100 400 [(2, [true, true, false]), (49, [true, true, false])] w
  · exact ak_k_ok am_cc100 400 [(2, [true, true, false]), (49, [true, true, false])] w
set_option maxRecDepth 100000 in
theorem am_k100_2 {e : ak_X3} {d : Nat} {ρ1 ρ2 : Nat} {h : ak_S} {Q : ak_S → Prop} {X : Nat → ak_S → Prop} {u : Nat} (hu : u = 0 ∨ u = 1) {x1 : Int} (w :
  (1260 < x1 →
    Q h)
  ∧ (x1 ≤ 1260 →
    (h.1 77 10 = 0 →
      Q h)
    ∧ (h.1 77 10 ≠ 0 →
      (h.1 77 10 ≠ 2 →
        ak_W0 e 0 d 100 [ak_T u, ρ1, ρ2, ak_T u, ak_T u + 1] 49 [some (am_r 32), some (am_i x1), none] [am_i 0] h (ak_qv Q X))
      ∧ (h.1 77 10 = 2 →
        (0 ≤ h.1 77 14 ∧ h.1 77 14 < (60 : Int)) ∧ ak_W0 e 0 d 100 [ak_T u, ρ1, ρ2, ak_T u, ak_T u + 1] 49 [some (am_r 32), some (am_i x1), none] [am_i (h.1 75 (h.1 77 14).toNat)] h (ak_qv Q X))))) :
  ak_W0 e 0 d 100 [ak_T u, ρ1, ρ2, ak_T u, ak_T u + 1] 2 [some (am_r 32), some (am_i x1), none] [] h (ak_qv Q X) := by
  rcases hu with rfl | rfl
  · exact ak_k_ok am_cc100 400 [(2, [true, true, false]), (49, [true, true, false])] w
  · exact ak_k_ok am_cc100 400 [(2, [true, true, false]), (49, [true, true, false])] w
set_option maxRecDepth 100000 in
theorem am_k100_49 {e : ak_X3} {d : Nat} {ρ1 ρ2 : Nat} {h : ak_S} {Q : ak_S → Prop} {X : Nat → ak_S → Prop} {u : Nat} (hu : u = 0 ∨ u = 1) {x1 y0 : Int} (w :
  (h.1 77 4 ≤ y0 →
    ak_MV e 0 d [ak_T u, ρ1, ρ2, ak_T u, ak_T u + 1] 103 [am_r 32] h (fun h1 =>
      ak_W0 e 0 d 100 [ak_T u, ρ1, ρ2, ak_T u, ak_T u + 1] 2 [some (am_r 32), some (am_i (am_w32 (x1 + 1))), none] [] h1 (ak_qv Q X)) (fun _ _ => False))
  ∧ (y0 < h.1 77 4 →
    ak_MV e 0 d [ak_T u, ρ1, ρ2, ak_T u, ak_T u + 1] 101 [am_r 32, am_i (am_w32 ((h.1 77 4) - 1))] h (fun h2 =>
      ak_W0 e 0 d 100 [ak_T u, ρ1, ρ2, ak_T u, ak_T u + 1] 2 [some (am_r 32), some (am_i (am_w32 (x1 + 1))), none] [] h2 (ak_qv Q X)) (fun _ _ => False))) :
  ak_W0 e 0 d 100 [ak_T u, ρ1, ρ2, ak_T u, ak_T u + 1] 49 [some (am_r 32), some (am_i x1), none] [am_i y0] h (ak_qv Q X) := by
  rcases hu with rfl | rfl
  · exact ak_k_ok am_cc100 400 [(2, [true, true, false]), (49, [true, true, false])] w
  · exact ak_k_ok am_cc100 400 [(2, [true, true, false]), (49, [true, true, false])] w
theorem am_cc101 : am_co am_P 101 = am_lk am_rw101 ∧ am_hl am_P 101 = [] ∧ am_rtag (am_re am_P 101) = 0 := ⟨rfl, rfl, rfl⟩
set_option maxRecDepth 100000 in
theorem am_k101_0 {e : ak_X3} {d : Nat} {ρ1 ρ2 : Nat} {h : ak_S} {Q : ak_S → Prop} {X : Nat → ak_S → Prop} {u : Nat} (hu : u = 0 ∨ u = 1) {x1 : Int} (w :
  (0 ≤ x1 ∧ x1 < (1260 : Int)) ∧ (0 ≤ x1 ∧ x1 < (1260 : Int)) ∧ (h.1 78 x1.toNat ≠ 0 →
    ak_W0 e 0 d 101 [ak_T u, ρ1, ρ2, ak_T u, ak_T u + 1] 51 [some (am_r 32), some (am_i x1), some (am_i (h.1 79 x1.toNat)), some (am_i ((-1)))] [] h (ak_qv Q X))
  ∧ (h.1 78 x1.toNat = 0 →
    (h.1 77 10 ≠ 1 →
      ak_W0 e 0 d 101 [ak_T u, ρ1, ρ2, ak_T u, ak_T u + 1] 51 [some (am_r 32), some (am_i x1), some (am_i (h.1 79 x1.toNat)), some (am_i ((-1)))] [] h (ak_qv Q X))
    ∧ (h.1 77 10 = 1 →
      ak_MI e 0 d [ak_T u, ρ1, ρ2, ak_T u, ak_T u + 1] 7 [am_r ((ak_T u + 1)), am_i (h.1 79 x1.toNat), am_i (h.1 77 11)] h (fun v2 h1 =>
        ak_W0 e 0 d 101 [ak_T u, ρ1, ρ2, ak_T u, ak_T u + 1] 51 [some (am_r 32), some (am_i x1), some (am_i (h.1 79 x1.toNat)), some (am_i v2)] [] h1 (ak_qv Q X)) (fun _ _ => False)))) :
  ak_W0 e 0 d 101 [ak_T u, ρ1, ρ2, ak_T u, ak_T u + 1] 0 [some (am_r 32), some (am_i x1), none, none] [] h (ak_qv Q X) := by
  rcases hu with rfl | rfl
  · exact ak_k_ok am_cc101 400 [(51, [true, true, true, true])] w
  · exact ak_k_ok am_cc101 400 [(51, [true, true, true, true])] w
set_option maxRecDepth 100000 in
theorem am_k101_51 {e : ak_X3} {d : Nat} {ρ1 ρ2 : Nat} {h : ak_S} {Q : ak_S → Prop} {X : Nat → ak_S → Prop} {u : Nat} (hu : u = 0 ∨ u = 1) {x1 x2 x3 : Int} (w :
  (x3 < 0 →
    (0 ≤ x1 ∧ x1 < (1260 : Int)) ∧ (h.1 78 x1.toNat = 2 →
      Q ((am_up h.1 77 4 x1), h.2))
    ∧ (h.1 78 x1.toNat ≠ 2 →
      (0 ≤ x2 ∧ x2 < (500 : Int)) ∧ (h.1 (ak_T u + 5) x2.toNat < 0 →
        Q ((am_up h.1 77 4 x1), h.2))
      ∧ (0 ≤ h.1 (ak_T u + 5) x2.toNat →
        ak_MV e 0 d [ak_T u, ρ1, ρ2, ak_T u, ak_T u + 1] 55 [am_r 77] h (fun h1 =>
          (0 ≤ x1 ∧ x1 < (1260 : Int)) ∧ (0 ≤ x2 ∧ x2 < (500 : Int)) ∧ ak_MV e 0 d [ak_T u, ρ1, ρ2, ak_T u, ak_T u + 1] 102 [am_r 32, am_i (h1.1 80 x1.toNat), am_i (h1.1 (ak_T u + 5) x2.toNat)] h1 (fun h2 =>
            Q h2) (fun _ _ => False)) (fun _ _ => False))))
  ∧ (0 ≤ x3 →
    (0 ≤ x1 ∧ x1 < (1260 : Int)) ∧ (0 ≤ x3 ∧ x3 < (1000 : Int)) ∧ ak_MV e 0 d [ak_T u, ρ1, ρ2, ak_T u, ak_T u + 1] 102 [am_r 32, am_i (h.1 80 x1.toNat), am_i (h.1 (ak_T u + 9) x3.toNat)] h (fun h3 =>
      (0 ≤ x1 ∧ x1 < (1260 : Int)) ∧ (0 ≤ h3.1 80 x1.toNat ∧ h3.1 80 x1.toNat < (60 : Int)) ∧ (0 ≤ x3 ∧ x3 < (1000 : Int)) ∧ ak_MV e 0 d [ak_T u, ρ1, ρ2, ak_T u, ak_T u + 1] 146 [am_r 49, am_i (h3.1 70 (h3.1 80 x1.toNat).toNat), am_i (h3.1 (ak_T u + 8) x3.toNat), am_i (h3.1 77 12), am_l (h3.2.1 77 13)] h3 (fun h4 =>
        (0 ≤ x1 ∧ x1 < (1260 : Int)) ∧ (0 ≤ x1 ∧ x1 < (1260 : Int)) ∧ Q ((am_up (am_up (am_up h4.1 78 x1.toNat 1) 81 x1.toNat (h4.1 77 14)) 77 10 0), h4.2)) (fun _ _ => False)) (fun _ _ => False))) :
  ak_W0 e 0 d 101 [ak_T u, ρ1, ρ2, ak_T u, ak_T u + 1] 51 [some (am_r 32), some (am_i x1), some (am_i x2), some (am_i x3)] [] h (ak_qv Q X) := by
  rcases hu with rfl | rfl
  · exact ak_k_ok am_cc101 400 [(51, [true, true, true, true])] w
  · exact ak_k_ok am_cc101 400 [(51, [true, true, true, true])] w
theorem am_cc102 : am_co am_P 102 = am_lk am_rw102 ∧ am_hl am_P 102 = [] ∧ am_rtag (am_re am_P 102) = 0 := ⟨rfl, rfl, rfl⟩
set_option maxRecDepth 100000 in
theorem am_k102_0 {e : ak_X3} {d : Nat} {ρ1 ρ2 : Nat} {h : ak_S} {Q : ak_S → Prop} {X : Nat → ak_S → Prop} {u : Nat} (hu : u = 0 ∨ u = 1) {x1 x2 : Int} (w :
  ak_MV e 0 d [ak_T u, ρ1, ρ2, ak_T u, ak_T u + 1] 104 [am_r 32, am_i (am_w32 (x1 + 1))] h (fun h1 =>
    (0 ≤ x1 ∧ x1 < (60 : Int)) ∧ (0 ≤ x1 ∧ x1 < (60 : Int)) ∧ Q ((am_up (am_up h1.1 72 x1.toNat x2) 32 10 (h1.1 74 x1.toNat)), h1.2)) (fun _ _ => False)) :
  ak_W0 e 0 d 102 [ak_T u, ρ1, ρ2, ak_T u, ak_T u + 1] 0 [some (am_r 32), some (am_i x1), some (am_i x2)] [] h (ak_qv Q X) := by
  rcases hu with rfl | rfl
  · exact ak_k_ok am_cc102 400 [] w
  · exact ak_k_ok am_cc102 400 [] w
theorem am_cc103 : am_co am_P 103 = am_lk am_rw103 ∧ am_hl am_P 103 = [] ∧ am_rtag (am_re am_P 103) = 0 := ⟨rfl, rfl, rfl⟩
set_option maxRecDepth 100000 in
theorem am_k103_0 {e : ak_X3} {d : Nat} {ρ1 ρ2 : Nat} {h : ak_S} {Q : ak_S → Prop} {X : Nat → ak_S → Prop} {u : Nat} (hu : u = 0 ∨ u = 1) (w :
  (h.1 77 10 ≠ 1 →
    (0 ≤ h.1 77 14 ∧ h.1 77 14 < (60 : Int)) ∧ ak_MV e 0 d [ak_T u, ρ1, ρ2, ak_T u, ak_T u + 1] 104 [am_r 32, am_i (h.1 77 14)] ((am_up h.1 32 10 (h.1 74 (h.1 77 14).toNat)), h.2) (fun h1 =>
      (h1.1 77 14 ≠ 0 →
        ak_MV e 0 d [ak_T u, ρ1, ρ2, ak_T u, ak_T u + 1] 73 [am_r 32, am_i (h1.1 77 12), am_l (h1.2.1 77 13)] h1 (fun h2 =>
          Q ((am_up h2.1 77 10 0), h2.2)) (fun _ _ => False))
      ∧ (h1.1 77 14 = 0 →
        ak_MV e 0 d [ak_T u, ρ1, ρ2, ak_T u, ak_T u + 1] 64 [am_r 63, am_i (h1.1 77 12), am_l (h1.2.1 77 13)] ((am_up h1.1 32 11 0), h1.2) (fun h3 =>
          Q ((am_up h3.1 77 10 0), h3.2)) (fun _ _ => False))) (fun _ _ => False))
  ∧ (h.1 77 10 = 1 →
    (0 ≤ (3 : Int) ∧ (3 : Int) < (7 : Int)) ∧ Q ((am_up (am_up h.1 32 11 1) 77 10 0), (am_up h.2.1 64 3 (h.1 77 14)), h.2.2))) :
  ak_W0 e 0 d 103 [ak_T u, ρ1, ρ2, ak_T u, ak_T u + 1] 0 [some (am_r 32)] [] h (ak_qv Q X) := by
  rcases hu with rfl | rfl
  · exact ak_k_ok am_cc103 400 [] w
  · exact ak_k_ok am_cc103 400 [] w
theorem am_cc104 : am_co am_P 104 = am_lk am_rw104 ∧ am_hl am_P 104 = [] ∧ am_rtag (am_re am_P 104) = 0 := ⟨rfl, rfl, rfl⟩
set_option maxRecDepth 100000 in
theorem am_k104_0 {e : ak_X3} {d : Nat} {ρ1 ρ2 : Nat} {h : ak_S} {Q : ak_S → Prop} {X : Nat → ak_S → Prop} {u : Nat} (hu : u = 0 ∨ u = 1) {x1 : Int} (w :
  ak_W0 e 0 d 104 [ak_T u, ρ1, ρ2, ak_T u, ak_T u + 1] 2 [some (am_r 32), some (am_i x1), some (am_i 0)] [] h (ak_qv Q X)) :
  ak_W0 e 0 d 104 [ak_T u, ρ1, ρ2, ak_T u, ak_T u + 1] 0 [some (am_r 32), some (am_i x1), none] [] h (ak_qv Q X) := by
  rcases hu with rfl | rfl
  · exact ak_k_ok am_cc104 400 [(2, [true, true, true])] w
  · exact ak_k_ok am_cc104 400 [(2, [true, true, true])] w
set_option maxRecDepth 100000 in
theorem am_k104_2 {e : ak_X3} {d : Nat} {ρ1 ρ2 : Nat} {h : ak_S} {Q : ak_S → Prop} {X : Nat → ak_S → Prop} {u : Nat} (hu : u = 0 ∨ u = 1) {x1 x2 : Int} (w :
  (60 ≤ x2 →
    Q h)
  ∧ (x2 < 60 →
    (h.1 69 7 ≤ x1 →
      Q h)
    ∧ (x1 < h.1 69 7 →
      ak_MV e 0 d [ak_T u, ρ1, ρ2, ak_T u, ak_T u + 1] 50 [am_r 69] h (fun h1 =>
        (0 ≤ h1.1 69 7 ∧ h1.1 69 7 < (60 : Int)) ∧ ak_MV e 0 d [ak_T u, ρ1, ρ2, ak_T u, ak_T u + 1] 142 [am_r 49, am_i (h1.1 70 (h1.1 69 7).toNat)] h1 (fun h2 =>
          ak_W0 e 0 d 104 [ak_T u, ρ1, ρ2, ak_T u, ak_T u + 1] 2 [some (am_r 32), some (am_i x1), some (am_i (am_w32 (x2 + 1)))] [] h2 (ak_qv Q X)) (fun _ _ => False)) (fun _ _ => False)))) :
  ak_W0 e 0 d 104 [ak_T u, ρ1, ρ2, ak_T u, ak_T u + 1] 2 [some (am_r 32), some (am_i x1), some (am_i x2)] [] h (ak_qv Q X) := by
  rcases hu with rfl | rfl
  · exact ak_k_ok am_cc104 400 [(2, [true, true, true])] w
  · exact ak_k_ok am_cc104 400 [(2, [true, true, true])] w
