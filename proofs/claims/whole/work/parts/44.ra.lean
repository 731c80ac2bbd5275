/-! rules of runs, methods 1 to 47 -/
theorem am_cc2 : am_co am_P 2 = am_lk am_rw2 ∧ am_hl am_P 2 = [] ∧ am_rtag (am_re am_P 2) = 0 := ⟨rfl, rfl, rfl⟩
set_option maxRecDepth 100000 in
theorem am_k2_0 {e : ak_X3} {d : Nat} {ρ : List Nat} {h : ak_S} {Q : ak_S → Prop} {X : Nat → ak_S → Prop} {u : Nat} (hu : u = 0 ∨ u = 1) (w :
  Q ((am_up (am_up (am_up h.1 (ak_T u + 1) 2 0) (ak_T u + 1) 6 0) (ak_T u + 1) 11 0), h.2)) :
  ak_W0 e 0 d 2 ρ 0 [some (am_r ((ak_T u + 1)))] [] h (ak_qv Q X) := by
  rcases hu with rfl | rfl
  · exact ak_k_ok am_cc2 400 [] w
  · exact ak_k_ok am_cc2 400 [] w
theorem am_cc3 : am_co am_P 3 = am_lk am_rw3 ∧ am_hl am_P 3 = [] ∧ am_rtag (am_re am_P 3) = 1 := ⟨rfl, rfl, rfl⟩
set_option maxRecDepth 100000 in
theorem am_k3_0 {e : ak_X3} {d : Nat} {ρ : List Nat} {h : ak_S} {Q : Int → ak_S → Prop} {X : Nat → ak_S → Prop} {u : Nat} (hu : u = 0 ∨ u = 1) {x1 x2 : Int} (w :
  (h.1 (ak_T u + 1) 2 < 9600 →
    (0 ≤ h.1 (ak_T u + 1) 2 ∧ h.1 (ak_T u + 1) 2 < (9600 : Int)) ∧ (0 ≤ h.1 (ak_T u + 1) 2 ∧ h.1 (ak_T u + 1) 2 < (9600 : Int)) ∧ Q (am_w32 ((am_w32 ((h.1 (ak_T u + 1) 2) + 1)) - 1)) ((am_up (am_up (am_up h.1 (ak_T u + 2) (h.1 (ak_T u + 1) 2).toNat x1) (ak_T u + 3) (h.1 (ak_T u + 1) 2).toNat x2) (ak_T u + 1) 2 (am_w32 ((h.1 (ak_T u + 1) 2) + 1))), h.2))
  ∧ (9600 ≤ h.1 (ak_T u + 1) 2 →
    Q 9599 h)) :
  ak_W0 e 0 d 3 ρ 0 [some (am_r ((ak_T u + 1))), some (am_i x1), some (am_i x2)] [] h (ak_qi Q X) := by
  rcases hu with rfl | rfl
  · exact ak_k_ok am_cc3 400 [] w
  · exact ak_k_ok am_cc3 400 [] w
theorem am_cc4 : am_co am_P 4 = am_lk am_rw4 ∧ am_hl am_P 4 = [] ∧ am_rtag (am_re am_P 4) = 0 := ⟨rfl, rfl, rfl⟩
set_option maxRecDepth 100000 in
theorem am_k4_0 {e : ak_X3} {d : Nat} {ρ : List Nat} {h : ak_S} {Q : ak_S → Prop} {X : Nat → ak_S → Prop} {u : Nat} (hu : u = 0 ∨ u = 1) {x1 : Int} (w :
  (x1 < 0 →
    Q h)
  ∧ (0 ≤ x1 →
    (9600 ≤ x1 →
      Q h)
    ∧ (x1 < 9600 →
      (0 ≤ x1 ∧ x1 < (9600 : Int)) ∧ Q ((am_up h.1 (ak_T u + 3) x1.toNat (h.1 (ak_T u + 1) 2)), h.2)))) :
  ak_W0 e 0 d 4 ρ 0 [some (am_r ((ak_T u + 1))), some (am_i x1)] [] h (ak_qv Q X) := by
  rcases hu with rfl | rfl
  · exact ak_k_ok am_cc4 400 [] w
  · exact ak_k_ok am_cc4 400 [] w
theorem am_cc5 : am_co am_P 5 = am_lk am_rw5 ∧ am_hl am_P 5 = [] ∧ am_rtag (am_re am_P 5) = 1 := ⟨rfl, rfl, rfl⟩
set_option maxRecDepth 100000 in
theorem am_k5_0 {e : ak_X3} {d : Nat} {ρ : List Nat} {h : ak_S} {Q : Int → ak_S → Prop} {X : Nat → ak_S → Prop} {u : Nat} (hu : u = 0 ∨ u = 1) (w :
  (h.1 (ak_T u + 1) 6 < 500 →
    (0 ≤ h.1 (ak_T u + 1) 6 ∧ h.1 (ak_T u + 1) 6 < (500 : Int)) ∧ (0 ≤ h.1 (ak_T u + 1) 6 ∧ h.1 (ak_T u + 1) 6 < (500 : Int)) ∧ (0 ≤ h.1 (ak_T u + 1) 6 ∧ h.1 (ak_T u + 1) 6 < (500 : Int)) ∧ Q (am_w32 ((am_w32 ((h.1 (ak_T u + 1) 6) + 1)) - 1)) ((am_up (am_up (am_up (am_up h.1 (ak_T u + 4) (h.1 (ak_T u + 1) 6).toNat (h.1 (ak_T u + 1) 11)) (ak_T u + 5) (h.1 (ak_T u + 1) 6).toNat ((-1))) (ak_T u + 6) (h.1 (ak_T u + 1) 6).toNat ((-1))) (ak_T u + 1) 6 (am_w32 ((h.1 (ak_T u + 1) 6) + 1))), h.2))
  ∧ (500 ≤ h.1 (ak_T u + 1) 6 →
    Q 499 h)) :
  ak_W0 e 0 d 5 ρ 0 [some (am_r ((ak_T u + 1)))] [] h (ak_qi Q X) := by
  rcases hu with rfl | rfl
  · exact ak_k_ok am_cc5 400 [] w
  · exact ak_k_ok am_cc5 400 [] w
theorem am_cc6 : am_co am_P 6 = am_lk am_rw6 ∧ am_hl am_P 6 = [] ∧ am_rtag (am_re am_P 6) = 0 := ⟨rfl, rfl, rfl⟩
set_option maxRecDepth 100000 in
theorem am_k6_0 {e : ak_X3} {d : Nat} {ρ : List Nat} {h : ak_S} {Q : ak_S → Prop} {X : Nat → ak_S → Prop} {u : Nat} (hu : u = 0 ∨ u = 1) {x1 x2 x3 : Int} (w :
  (1000 ≤ h.1 (ak_T u + 1) 11 →
    Q h)
  ∧ (h.1 (ak_T u + 1) 11 < 1000 →
    (0 ≤ h.1 (ak_T u + 1) 11 ∧ h.1 (ak_T u + 1) 11 < (1000 : Int)) ∧ (0 ≤ h.1 (ak_T u + 1) 11 ∧ h.1 (ak_T u + 1) 11 < (1000 : Int)) ∧ (0 ≤ h.1 (ak_T u + 1) 11 ∧ h.1 (ak_T u + 1) 11 < (1000 : Int)) ∧ (0 ≤ h.1 (ak_T u + 1) 11 ∧ h.1 (ak_T u + 1) 11 < (1000 : Int)) ∧ Q ((am_up (am_up (am_up (am_up (am_up h.1 (ak_T u + 7) (h.1 (ak_T u + 1) 11).toNat x2) (ak_T u + 8) (h.1 (ak_T u + 1) 11).toNat x3) (ak_T u + 9) (h.1 (ak_T u + 1) 11).toNat (h.1 (ak_T u + 1) 2)) (ak_T u + 10) (h.1 (ak_T u + 1) 11).toNat x1) (ak_T u + 1) 11 (am_w32 ((h.1 (ak_T u + 1) 11) + 1))), h.2))) :
  ak_W0 e 0 d 6 ρ 0 [some (am_r ((ak_T u + 1))), some (am_i x1), some (am_i x2), some (am_i x3)] [] h (ak_qv Q X) := by
  rcases hu with rfl | rfl
  · exact ak_k_ok am_cc6 400 [] w
  · exact ak_k_ok am_cc6 400 [] w
theorem am_cc7 : am_co am_P 7 = am_lk am_rw7 ∧ am_hl am_P 7 = [] ∧ am_rtag (am_re am_P 7) = 1 := ⟨rfl, rfl, rfl⟩
set_option maxRecDepth 100000 in
theorem am_k7_0 {e : ak_X3} {d : Nat} {ρ : List Nat} {h : ak_S} {Q : Int → ak_S → Prop} {X : Nat → ak_S → Prop} {u : Nat} (hu : u = 0 ∨ u = 1) {x1 x2 : Int} (w :
  (0 ≤ x1 ∧ x1 < (500 : Int)) ∧ ak_W0 e 0 d 7 ρ 7 [some (am_r ((ak_T u + 1))), some (am_i x1), some (am_i x2), some (am_i (h.1 (ak_T u + 4) x1.toNat))] [] h (ak_qi Q X)) :
  ak_W0 e 0 d 7 ρ 0 [some (am_r ((ak_T u + 1))), some (am_i x1), some (am_i x2), none] [] h (ak_qi Q X) := by
  rcases hu with rfl | rfl
  · exact ak_k_ok am_cc7 400 [(7, [true, true, true, true])] w
  · exact ak_k_ok am_cc7 400 [(7, [true, true, true, true])] w
set_option maxRecDepth 100000 in
theorem am_k7_7 {e : ak_X3} {d : Nat} {ρ : List Nat} {h : ak_S} {Q : Int → ak_S → Prop} {X : Nat → ak_S → Prop} {u : Nat} (hu : u = 0 ∨ u = 1) {x1 x2 x3 : Int} (w :
  (x3 < 0 →
    Q ((-1)) h)
  ∧ (0 ≤ x3 →
    (h.1 (ak_T u + 1) 11 ≤ x3 →
      Q ((-1)) h)
    ∧ (x3 < h.1 (ak_T u + 1) 11 →
      (0 ≤ x3 ∧ x3 < (1000 : Int)) ∧ (h.1 (ak_T u + 10) x3.toNat ≠ x1 →
        ak_W0 e 0 d 7 ρ 7 [some (am_r ((ak_T u + 1))), some (am_i x1), some (am_i x2), some (am_i (am_w32 (x3 + 1)))] [] h (ak_qi Q X))
      ∧ (h.1 (ak_T u + 10) x3.toNat = x1 →
        (0 ≤ x3 ∧ x3 < (1000 : Int)) ∧ (h.1 (ak_T u + 7) x3.toNat = 0 →
          Q x3 h)
        ∧ (h.1 (ak_T u + 7) x3.toNat ≠ 0 →
          (0 ≤ x3 ∧ x3 < (1000 : Int)) ∧ (h.1 (ak_T u + 7) x3.toNat ≠ x2 →
            ak_W0 e 0 d 7 ρ 7 [some (am_r ((ak_T u + 1))), some (am_i x1), some (am_i x2), some (am_i (am_w32 (x3 + 1)))] [] h (ak_qi Q X))
          ∧ (h.1 (ak_T u + 7) x3.toNat = x2 →
            Q x3 h)))))) :
  ak_W0 e 0 d 7 ρ 7 [some (am_r ((ak_T u + 1))), some (am_i x1), some (am_i x2), some (am_i x3)] [] h (ak_qi Q X) := by
  rcases hu with rfl | rfl
  · exact ak_k_ok am_cc7 400 [(7, [true, true, true, true])] w
  · exact ak_k_ok am_cc7 400 [(7, [true, true, true, true])] w
theorem am_cc10 : am_co am_P 10 = am_lk am_rw10 ∧ am_hl am_P 10 = [] ∧ am_rtag (am_re am_P 10) = 0 := ⟨rfl, rfl, rfl⟩
set_option maxRecDepth 100000 in
theorem am_k10_0 {e : ak_X3} {d : Nat} {ρ0 ρ3 ρ4 : Nat} {h : ak_S} {Q : ak_S → Prop} {X : Nat → ak_S → Prop} {u : Nat} (hu : u = 0 ∨ u = 1) {x0 : Int} (w :
  (x0 ≠ 0 →
    Q h)
  ∧ (x0 = 0 →
    X 0 (h.1, h.2.1, h.2.2.1 + 1, h.2.2.2 + 6))) :
  ak_W0 e 0 d 10 [ρ0, ak_T u, ak_T u + 1, ρ3, ρ4] 0 [some (am_i x0)] [] h (ak_qv Q X) := by
  rcases hu with rfl | rfl
  · exact ak_k_ok am_cc10 400 [] w
  · exact ak_k_ok am_cc10 400 [] w
theorem am_cc11 : am_co am_P 11 = am_lk am_rw11 ∧ am_hl am_P 11 = [] ∧ am_rtag (am_re am_P 11) = 0 := ⟨rfl, rfl, rfl⟩
set_option maxRecDepth 100000 in
theorem am_k11_0 {e : ak_X3} {d : Nat} {ρ0 ρ3 ρ4 : Nat} {h : ak_S} {Q : ak_S → Prop} {X : Nat → ak_S → Prop} {u : Nat} (hu : u = 0 ∨ u = 1) {x1 : Int} (w :
  (h.1 3 8 ≠ x1 →
    ak_MV e 0 d [ρ0, ak_T u, ak_T u + 1, ρ3, ρ4] 10 [am_i 0] h (fun h1 =>
      ak_MV e 0 d [ρ0, ak_T u, ak_T u + 1, ρ3, ρ4] 128 [am_r 3] h1 (fun h2 =>
        Q h2) (fun _ _ => False)) X)
  ∧ (h.1 3 8 = x1 →
    ak_MV e 0 d [ρ0, ak_T u, ak_T u + 1, ρ3, ρ4] 10 [am_i 1] h (fun h3 =>
      ak_MV e 0 d [ρ0, ak_T u, ak_T u + 1, ρ3, ρ4] 128 [am_r 3] h3 (fun h4 =>
        Q h4) (fun _ _ => False)) X)) :
  ak_W0 e 0 d 11 [ρ0, ak_T u, ak_T u + 1, ρ3, ρ4] 0 [some (am_r 2), some (am_i x1)] [] h (ak_qv Q X) := by
  rcases hu with rfl | rfl
  · exact ak_k_ok am_cc11 400 [] w
  · exact ak_k_ok am_cc11 400 [] w
theorem am_cc12 : am_co am_P 12 = am_lk am_rw12 ∧ am_hl am_P 12 = [] ∧ am_rtag (am_re am_P 12) = 0 := ⟨rfl, rfl, rfl⟩
set_option maxRecDepth 100000 in
theorem am_k12_0 {e : ak_X3} {d : Nat} {ρ0 ρ3 ρ4 : Nat} {h : ak_S} {Q : ak_S → Prop} {X : Nat → ak_S → Prop} {u : Nat} (hu : u = 0 ∨ u = 1) {x1 x2 : Int} (w :
  (h.1 3 8 ≠ x1 →
    ak_MV e 0 d [ρ0, ak_T u, ak_T u + 1, ρ3, ρ4] 10 [am_i 0] h (fun h1 =>
      ak_MV e 0 d [ρ0, ak_T u, ak_T u + 1, ρ3, ρ4] 128 [am_r 3] h1 (fun h2 =>
        Q h2) (fun _ _ => False)) X)
  ∧ (h.1 3 8 = x1 →
    (20 ≤ x2 →
      ak_MV e 0 d [ρ0, ak_T u, ak_T u + 1, ρ3, ρ4] 10 [am_i 0] h (fun h3 =>
        ak_MV e 0 d [ρ0, ak_T u, ak_T u + 1, ρ3, ρ4] 128 [am_r 3] h3 (fun h4 =>
          Q h4) (fun _ _ => False)) X)
    ∧ (x2 < 20 →
      ak_MV e 0 d [ρ0, ak_T u, ak_T u + 1, ρ3, ρ4] 10 [am_i 1] h (fun h5 =>
        ak_MV e 0 d [ρ0, ak_T u, ak_T u + 1, ρ3, ρ4] 128 [am_r 3] h5 (fun h6 =>
          Q h6) (fun _ _ => False)) X))) :
  ak_W0 e 0 d 12 [ρ0, ak_T u, ak_T u + 1, ρ3, ρ4] 0 [some (am_r 2), some (am_i x1), some (am_i x2)] [] h (ak_qv Q X) := by
  rcases hu with rfl | rfl
  · exact ak_k_ok am_cc12 400 [] w
  · exact ak_k_ok am_cc12 400 [] w
theorem am_cc13 : am_co am_P 13 = am_lk am_rw13 ∧ am_hl am_P 13 = [] ∧ am_rtag (am_re am_P 13) = 0 := ⟨rfl, rfl, rfl⟩
set_option maxRecDepth 100000 in
theorem am_k13_0 {e : ak_X3} {d : Nat} {ρ0 ρ3 ρ4 : Nat} {h : ak_S} {Q : ak_S → Prop} {X : Nat → ak_S → Prop} {u : Nat} (hu : u = 0 ∨ u = 1) (w :
  ak_W0 e 0 d 13 [ρ0, ak_T u, ak_T u + 1, ρ3, ρ4] 2 [some (am_r 2), some (am_i 0)] [] h (ak_qv Q X)) :
  ak_W0 e 0 d 13 [ρ0, ak_T u, ak_T u + 1, ρ3, ρ4] 0 [some (am_r 2), none] [] h (ak_qv Q X) := by
  rcases hu with rfl | rfl
  · exact ak_k_ok am_cc13 400 [(2, [true, true])] w
  · exact ak_k_ok am_cc13 400 [(2, [true, true])] w
set_option maxRecDepth 100000 in
theorem am_k13_2 {e : ak_X3} {d : Nat} {ρ0 ρ3 ρ4 : Nat} {h : ak_S} {Q : ak_S → Prop} {X : Nat → ak_S → Prop} {u : Nat} (hu : u = 0 ∨ u = 1) {x1 : Int} (w :
  (40 < x1 →
    Q h)
  ∧ (x1 ≤ 40 →
    ak_MV e 0 d [ρ0, ak_T u, ak_T u + 1, ρ3, ρ4] 14 [am_r 2] h (fun h1 =>
      (h1.1 3 8 ≠ 0 →
        ak_W0 e 0 d 13 [ρ0, ak_T u, ak_T u + 1, ρ3, ρ4] 2 [some (am_r 2), some (am_i (am_w32 (x1 + 1)))] [] h1 (ak_qv Q X))
      ∧ (h1.1 3 8 = 0 →
        Q h1)) X)) :
  ak_W0 e 0 d 13 [ρ0, ak_T u, ak_T u + 1, ρ3, ρ4] 2 [some (am_r 2), some (am_i x1)] [] h (ak_qv Q X) := by
  rcases hu with rfl | rfl
  · exact ak_k_ok am_cc13 400 [(2, [true, true])] w
  · exact ak_k_ok am_cc13 400 [(2, [true, true])] w
theorem am_cc14 : am_co am_P 14 = am_lk am_rw14 ∧ am_hl am_P 14 = [] ∧ am_rtag (am_re am_P 14) = 0 := ⟨rfl, rfl, rfl⟩
set_option maxRecDepth 100000 in
theorem am_k14_0 {e : ak_X3} {d : Nat} {ρ0 ρ3 ρ4 : Nat} {h : ak_S} {Q : ak_S → Prop} {X : Nat → ak_S → Prop} {u : Nat} (hu : u = 0 ∨ u = 1) (w :
  (h.1 3 8 ≠ 200 →
    ak_W0 e 0 d 14 [ρ0, ak_T u, ak_T u + 1, ρ3, ρ4] 30 [some (am_r 2)] [am_i 0] h (ak_qv Q X))
  ∧ (h.1 3 8 = 200 →
    (40 ≤ h.1 (ak_T u) 4 →
      ak_W0 e 0 d 14 [ρ0, ak_T u, ak_T u + 1, ρ3, ρ4] 30 [some (am_r 2)] [am_i 0] h (ak_qv Q X))
    ∧ (h.1 (ak_T u) 4 < 40 →
      ak_W0 e 0 d 14 [ρ0, ak_T u, ak_T u + 1, ρ3, ρ4] 30 [some (am_r 2)] [am_i 1] h (ak_qv Q X)))) :
  ak_W0 e 0 d 14 [ρ0, ak_T u, ak_T u + 1, ρ3, ρ4] 0 [some (am_r 2)] [] h (ak_qv Q X) := by
  rcases hu with rfl | rfl
  · exact ak_k_ok am_cc14 400 [(30, [true]), (73, [true])] w
  · exact ak_k_ok am_cc14 400 [(30, [true]), (73, [true])] w
set_option maxRecDepth 100000 in
theorem am_k14_30 {e : ak_X3} {d : Nat} {ρ0 ρ3 ρ4 : Nat} {h : ak_S} {Q : ak_S → Prop} {X : Nat → ak_S → Prop} {u : Nat} (hu : u = 0 ∨ u = 1) {y0 : Int} (w :
  ak_MV e 0 d [ρ0, ak_T u, ak_T u + 1, ρ3, ρ4] 10 [am_i y0] h (fun h1 =>
    ak_MV e 0 d [ρ0, ak_T u, ak_T u + 1, ρ3, ρ4] 128 [am_r 3] h1 (fun h2 =>
      (h2.1 3 8 ≠ 2 →
        ak_W0 e 0 d 14 [ρ0, ak_T u, ak_T u + 1, ρ3, ρ4] 73 [some (am_r 2)] [am_i 0] h2 (ak_qv Q X))
      ∧ (h2.1 3 8 = 2 →
        ak_MI e 0 d [ρ0, ak_T u, ak_T u + 1, ρ3, ρ4] 135 [am_r ((ak_T u)), am_l (h2.2.1 3 10)] h2 (fun v4 h3 =>
          (0 ≤ v4 →
            ak_W0 e 0 d 14 [ρ0, ak_T u, ak_T u + 1, ρ3, ρ4] 73 [some (am_r 2)] [am_i 0] h3 (ak_qv Q X))
          ∧ (v4 < 0 →
            ak_W0 e 0 d 14 [ρ0, ak_T u, ak_T u + 1, ρ3, ρ4] 73 [some (am_r 2)] [am_i 1] h3 (ak_qv Q X))) (fun _ _ => False))) (fun _ _ => False)) X) :
  ak_W0 e 0 d 14 [ρ0, ak_T u, ak_T u + 1, ρ3, ρ4] 30 [some (am_r 2)] [am_i y0] h (ak_qv Q X) := by
  rcases hu with rfl | rfl
  · exact ak_k_ok am_cc14 400 [(30, [true]), (73, [true])] w
  · exact ak_k_ok am_cc14 400 [(30, [true]), (73, [true])] w
set_option maxRecDepth 100000 in
theorem am_k14_73 {e : ak_X3} {d : Nat} {ρ0 ρ3 ρ4 : Nat} {h : ak_S} {Q : ak_S → Prop} {X : Nat → ak_S → Prop} {u : Nat} (hu : u = 0 ∨ u = 1) {y0 : Int} (w :
  ak_MV e 0 d [ρ0, ak_T u, ak_T u + 1, ρ3, ρ4] 10 [am_i y0] h (fun h1 =>
    (0 ≤ h1.1 (ak_T u) 4 ∧ h1.1 (ak_T u) 4 < (40 : Int)) ∧ (0 ≤ h1.1 (ak_T u) 4 ∧ h1.1 (ak_T u) 4 < (40 : Int)) ∧ (0 ≤ (0 : Int) ∧ (0 : Int) < (21 : Int)) ∧ ak_MV e 0 d [ρ0, ak_T u, ak_T u + 1, ρ3, ρ4] 128 [am_r 3] ((am_up (am_up (am_up (am_up (am_up h1.1 2 6 (h1.1 (ak_T u) 4)) (ak_T u + 13) (h1.1 (ak_T u) 4).toNat (h1.1 (ak_T u + 1) 2)) (ak_T u) 4 (am_w32 ((h1.1 (ak_T u) 4) + 1))) 2 5 0) 31 0 0), (am_up h1.2.1 (ak_T u + 11) (h1.1 (ak_T u) 4).toNat (h1.2.1 3 10)), h1.2.2) (fun h2 =>
      ak_MV e 0 d [ρ0, ak_T u, ak_T u + 1, ρ3, ρ4] 12 [am_r 2, am_i 40, am_i 0] h2 (fun h3 =>
        (h3.1 3 8 ≠ 41 →
          ak_MI e 0 d [ρ0, ak_T u, ak_T u + 1, ρ3, ρ4] 15 [am_r 2] h3 (fun v5 h4 =>
            (0 ≤ h3.1 2 6 ∧ h3.1 2 6 < (40 : Int)) ∧ ak_MV e 0 d [ρ0, ak_T u, ak_T u + 1, ρ3, ρ4] 11 [am_r 2, am_i 41] ((am_up h4.1 (ak_T u + 12) (h3.1 2 6).toNat v5), h4.2) (fun h6 =>
              ak_MV e 0 d [ρ0, ak_T u, ak_T u + 1, ρ3, ρ4] 20 [am_r 2, am_i 0] h6 (fun h7 =>
                ak_MI e 0 d [ρ0, ak_T u, ak_T u + 1, ρ3, ρ4] 3 [am_r ((ak_T u + 1)), am_i 34, am_i 0] h7 (fun v9 h8 =>
                  Q h8) (fun _ _ => False)) X) X) X)
        ∧ (h3.1 3 8 = 41 →
          (0 ≤ h3.1 2 6 ∧ h3.1 2 6 < (40 : Int)) ∧ ak_MV e 0 d [ρ0, ak_T u, ak_T u + 1, ρ3, ρ4] 11 [am_r 2, am_i 41] ((am_up h3.1 (ak_T u + 12) (h3.1 2 6).toNat 0), h3.2) (fun h10 =>
            ak_MV e 0 d [ρ0, ak_T u, ak_T u + 1, ρ3, ρ4] 20 [am_r 2, am_i 0] h10 (fun h11 =>
              ak_MI e 0 d [ρ0, ak_T u, ak_T u + 1, ρ3, ρ4] 3 [am_r ((ak_T u + 1)), am_i 34, am_i 0] h11 (fun v13 h12 =>
                Q h12) (fun _ _ => False)) X) X)) X) (fun _ _ => False)) X) :
  ak_W0 e 0 d 14 [ρ0, ak_T u, ak_T u + 1, ρ3, ρ4] 73 [some (am_r 2)] [am_i y0] h (ak_qv Q X) := by
  rcases hu with rfl | rfl
  · exact ak_k_ok am_cc14 400 [(30, [true]), (73, [true])] w
  · exact ak_k_ok am_cc14 400 [(30, [true]), (73, [true])] w
theorem am_cc15 : am_co am_P 15 = am_lk am_rw15 ∧ am_hl am_P 15 = [] ∧ am_rtag (am_re am_P 15) = 1 := ⟨rfl, rfl, rfl⟩
set_option maxRecDepth 100000 in
theorem am_k15_0 {e : ak_X3} {d : Nat} {ρ0 ρ3 ρ4 : Nat} {h : ak_S} {Q : Int → ak_S → Prop} {X : Nat → ak_S → Prop} {u : Nat} (hu : u = 0 ∨ u = 1) (w :
  ak_W0 e 0 d 15 [ρ0, ak_T u, ak_T u + 1, ρ3, ρ4] 4 [some (am_r 2), some (am_i 0), some (am_i 1)] [] h (ak_qi Q X)) :
  ak_W0 e 0 d 15 [ρ0, ak_T u, ak_T u + 1, ρ3, ρ4] 0 [some (am_r 2), none, none] [] h (ak_qi Q X) := by
  rcases hu with rfl | rfl
  · exact ak_k_ok am_cc15 400 [(4, [true, true, true]), (23, [true, true, false])] w
  · exact ak_k_ok am_cc15 400 [(4, [true, true, true]), (23, [true, true, false])] w
set_option maxRecDepth 100000 in
theorem am_k15_4 {e : ak_X3} {d : Nat} {ρ0 ρ3 ρ4 : Nat} {h : ak_S} {Q : Int → ak_S → Prop} {X : Nat → ak_S → Prop} {u : Nat} (hu : u = 0 ∨ u = 1) {x1 x2 : Int} (w :
  (x2 = 0 →
    Q x1 h)
  ∧ (x2 ≠ 0 →
    (4 < x1 →
      Q x1 h)
    ∧ (x1 ≤ 4 →
      (4 ≤ x1 →
        ak_W0 e 0 d 15 [ρ0, ak_T u, ak_T u + 1, ρ3, ρ4] 23 [some (am_r 2), some (am_i x1), none] [am_i 0] h (ak_qi Q X))
      ∧ (x1 < 4 →
        ak_W0 e 0 d 15 [ρ0, ak_T u, ak_T u + 1, ρ3, ρ4] 23 [some (am_r 2), some (am_i x1), none] [am_i 1] h (ak_qi Q X))))) :
  ak_W0 e 0 d 15 [ρ0, ak_T u, ak_T u + 1, ρ3, ρ4] 4 [some (am_r 2), some (am_i x1), some (am_i x2)] [] h (ak_qi Q X) := by
  rcases hu with rfl | rfl
  · exact ak_k_ok am_cc15 400 [(4, [true, true, true]), (23, [true, true, false])] w
  · exact ak_k_ok am_cc15 400 [(4, [true, true, true]), (23, [true, true, false])] w
set_option maxRecDepth 100000 in
theorem am_k15_23 {e : ak_X3} {d : Nat} {ρ0 ρ3 ρ4 : Nat} {h : ak_S} {Q : Int → ak_S → Prop} {X : Nat → ak_S → Prop} {u : Nat} (hu : u = 0 ∨ u = 1) {x1 y0 : Int} (w :
  ak_MV e 0 d [ρ0, ak_T u, ak_T u + 1, ρ3, ρ4] 10 [am_i y0] h (fun h1 =>
    ak_MV e 0 d [ρ0, ak_T u, ak_T u + 1, ρ3, ρ4] 16 [am_r 2] h1 (fun h2 =>
      ak_MI e 0 d [ρ0, ak_T u, ak_T u + 1, ρ3, ρ4] 17 [am_r 2, am_l (h2.2.1 3 10)] h2 (fun v4 h3 =>
        ak_MV e 0 d [ρ0, ak_T u, ak_T u + 1, ρ3, ρ4] 128 [am_r 3] h3 (fun h5 =>
          (h5.1 3 8 ≠ 44 →
            ((0 : Int) = 0 →
              ak_W0 e 0 d 15 [ρ0, ak_T u, ak_T u + 1, ρ3, ρ4] 4 [some (am_r 2), some (am_i (am_w32 (x1 + 1))), some (am_i 0)] [] h5 (ak_qi Q X))
            ∧ ((0 : Int) ≠ 0 →
              ak_MV e 0 d [ρ0, ak_T u, ak_T u + 1, ρ3, ρ4] 128 [am_r 3] h5 (fun h6 =>
                ak_W0 e 0 d 15 [ρ0, ak_T u, ak_T u + 1, ρ3, ρ4] 4 [some (am_r 2), some (am_i (am_w32 (x1 + 1))), some (am_i 0)] [] h6 (ak_qi Q X)) (fun _ _ => False)))
          ∧ (h5.1 3 8 = 44 →
            ((1 : Int) = 0 →
              ak_W0 e 0 d 15 [ρ0, ak_T u, ak_T u + 1, ρ3, ρ4] 4 [some (am_r 2), some (am_i (am_w32 (x1 + 1))), some (am_i 1)] [] h5 (ak_qi Q X))
            ∧ ((1 : Int) ≠ 0 →
              ak_MV e 0 d [ρ0, ak_T u, ak_T u + 1, ρ3, ρ4] 128 [am_r 3] h5 (fun h7 =>
                ak_W0 e 0 d 15 [ρ0, ak_T u, ak_T u + 1, ρ3, ρ4] 4 [some (am_r 2), some (am_i (am_w32 (x1 + 1))), some (am_i 1)] [] h7 (ak_qi Q X)) (fun _ _ => False)))) (fun _ _ => False)) (fun _ _ => False)) X) X) :
  ak_W0 e 0 d 15 [ρ0, ak_T u, ak_T u + 1, ρ3, ρ4] 23 [some (am_r 2), some (am_i x1), none] [am_i y0] h (ak_qi Q X) := by
  rcases hu with rfl | rfl
  · exact ak_k_ok am_cc15 400 [(4, [true, true, true]), (23, [true, true, false])] w
  · exact ak_k_ok am_cc15 400 [(4, [true, true, true]), (23, [true, true, false])] w
theorem am_cc16 : am_co am_P 16 = am_lk am_rw16 ∧ am_hl am_P 16 = [] ∧ am_rtag (am_re am_P 16) = 0 := ⟨rfl, rfl, rfl⟩
set_option maxRecDepth 100000 in
theorem am_k16_0 {e : ak_X3} {d : Nat} {ρ0 ρ3 ρ4 : Nat} {h : ak_S} {Q : ak_S → Prop} {X : Nat → ak_S → Prop} {u : Nat} (hu : u = 0 ∨ u = 1) (w :
  (h.1 3 8 ≠ 2 →
    ak_MV e 0 d [ρ0, ak_T u, ak_T u + 1, ρ3, ρ4] 10 [am_i 0] h (fun h1 =>
      Q h1) X)
  ∧ (h.1 3 8 = 2 →
    (0 ≤ h.1 2 5 ∧ h.1 2 5 < (21 : Int)) ∧ (12 ≤ h.1 31 (h.1 2 5).toNat →
      ak_MV e 0 d [ρ0, ak_T u, ak_T u + 1, ρ3, ρ4] 10 [am_i 0] h (fun h2 =>
        Q h2) X)
    ∧ (h.1 31 (h.1 2 5).toNat < 12 →
      ak_MI e 0 d [ρ0, ak_T u, ak_T u + 1, ρ3, ρ4] 18 [am_r 2, am_i (h.1 2 5), am_l (h.2.1 3 10)] h (fun v4 h3 =>
        (0 ≤ v4 →
          ak_MV e 0 d [ρ0, ak_T u, ak_T u + 1, ρ3, ρ4] 10 [am_i 0] h3 (fun h5 =>
            Q h5) X)
        ∧ (v4 < 0 →
          ak_MV e 0 d [ρ0, ak_T u, ak_T u + 1, ρ3, ρ4] 10 [am_i 1] h3 (fun h6 =>
            Q h6) X)) (fun _ _ => False)))) :
  ak_W0 e 0 d 16 [ρ0, ak_T u, ak_T u + 1, ρ3, ρ4] 0 [some (am_r 2)] [] h (ak_qv Q X) := by
  rcases hu with rfl | rfl
  · exact ak_k_ok am_cc16 400 [] w
  · exact ak_k_ok am_cc16 400 [] w
theorem am_cc17 : am_co am_P 17 = am_lk am_rw17 ∧ am_hl am_P 17 = [] ∧ am_rtag (am_re am_P 17) = 1 := ⟨rfl, rfl, rfl⟩
set_option maxRecDepth 100000 in
theorem am_k17_0 {e : ak_X3} {d : Nat} {ρ0 ρ3 ρ4 : Nat} {h : ak_S} {Q : Int → ak_S → Prop} {X : Nat → ak_S → Prop} {u : Nat} (hu : u = 0 ∨ u = 1) {x1 : Int} (w :
  (0 ≤ h.1 2 5 ∧ h.1 2 5 < (21 : Int)) ∧ (0 ≤ am_w32 ((am_w32 ((h.1 2 5) * 12)) + (h.1 31 (h.1 2 5).toNat)) ∧ am_w32 ((am_w32 ((h.1 2 5) * 12)) + (h.1 31 (h.1 2 5).toNat)) < (252 : Int)) ∧ (0 ≤ h.1 2 5 ∧ h.1 2 5 < (21 : Int)) ∧ (0 ≤ h.1 2 5 ∧ h.1 2 5 < (21 : Int)) ∧ Q (h.1 31 (h.1 2 5).toNat) ((am_up h.1 31 (h.1 2 5).toNat (am_w32 ((h.1 31 (h.1 2 5).toNat) + 1))), (am_up h.2.1 30 (am_w32 ((am_w32 ((h.1 2 5) * 12)) + (h.1 31 (h.1 2 5).toNat))).toNat x1), h.2.2)) :
  ak_W0 e 0 d 17 [ρ0, ak_T u, ak_T u + 1, ρ3, ρ4] 0 [some (am_r 2), some (am_l x1), none, none] [] h (ak_qi Q X) := by
  rcases hu with rfl | rfl
  · exact ak_k_ok am_cc17 400 [] w
  · exact ak_k_ok am_cc17 400 [] w
theorem am_cc18 : am_co am_P 18 = am_lk am_rw18 ∧ am_hl am_P 18 = [] ∧ am_rtag (am_re am_P 18) = 1 := ⟨rfl, rfl, rfl⟩
set_option maxRecDepth 100000 in
theorem am_k18_0 {e : ak_X3} {d : Nat} {ρ0 ρ3 ρ4 : Nat} {h : ak_S} {Q : Int → ak_S → Prop} {X : Nat → ak_S → Prop} {u : Nat} (hu : u = 0 ∨ u = 1) {x1 x2 : Int} (w :
  ak_W0 e 0 d 18 [ρ0, ak_T u, ak_T u + 1, ρ3, ρ4] 3 [some (am_r 2), some (am_i x1), some (am_l x2), none, some (am_i 0)] [] h (ak_qi Q X)) :
  ak_W0 e 0 d 18 [ρ0, ak_T u, ak_T u + 1, ρ3, ρ4] 0 [some (am_r 2), some (am_i x1), some (am_l x2), none, none] [] h (ak_qi Q X) := by
  rcases hu with rfl | rfl
  · exact ak_k_ok am_cc18 400 [(3, [true, true, true, false, true])] w
  · exact ak_k_ok am_cc18 400 [(3, [true, true, true, false, true])] w
set_option maxRecDepth 100000 in
theorem am_k18_3 {e : ak_X3} {d : Nat} {ρ0 ρ3 ρ4 : Nat} {h : ak_S} {Q : Int → ak_S → Prop} {X : Nat → ak_S → Prop} {u : Nat} (hu : u = 0 ∨ u = 1) {x1 x2 x4 : Int} (w :
  (0 ≤ x1 ∧ x1 < (21 : Int)) ∧ (h.1 31 x1.toNat ≤ x4 →
    Q ((-1)) h)
  ∧ (x4 < h.1 31 x1.toNat →
    (0 ≤ am_w32 ((am_w32 (x1 * 12)) + x4) ∧ am_w32 ((am_w32 (x1 * 12)) + x4) < (252 : Int)) ∧ (am_lsign (h.2.1 30 (am_w32 ((am_w32 (x1 * 12)) + x4)).toNat) x2 ≠ 0 →
      ak_W0 e 0 d 18 [ρ0, ak_T u, ak_T u + 1, ρ3, ρ4] 3 [some (am_r 2), some (am_i x1), some (am_l x2), none, some (am_i (am_w32 (x4 + 1)))] [] h (ak_qi Q X))
    ∧ (am_lsign (h.2.1 30 (am_w32 ((am_w32 (x1 * 12)) + x4)).toNat) x2 = 0 →
      Q x4 h))) :
  ak_W0 e 0 d 18 [ρ0, ak_T u, ak_T u + 1, ρ3, ρ4] 3 [some (am_r 2), some (am_i x1), some (am_l x2), none, some (am_i x4)] [] h (ak_qi Q X) := by
  rcases hu with rfl | rfl
  · exact ak_k_ok am_cc18 400 [(3, [true, true, true, false, true])] w
  · exact ak_k_ok am_cc18 400 [(3, [true, true, true, false, true])] w
theorem am_cc19 : am_co am_P 19 = am_lk am_rw19 ∧ am_hl am_P 19 = [] ∧ am_rtag (am_re am_P 19) = 1 := ⟨rfl, rfl, rfl⟩
set_option maxRecDepth 100000 in
theorem am_k19_0 {e : ak_X3} {d : Nat} {ρ0 ρ3 ρ4 : Nat} {h : ak_S} {Q : Int → ak_S → Prop} {X : Nat → ak_S → Prop} {u : Nat} (hu : u = 0 ∨ u = 1) {x1 : Int} (w :
  ak_W0 e 0 d 19 [ρ0, ak_T u, ak_T u + 1, ρ3, ρ4] 5 [some (am_r 2), some (am_l x1), none, some (am_i (h.1 2 5)), none] [] h (ak_qi Q X)) :
  ak_W0 e 0 d 19 [ρ0, ak_T u, ak_T u + 1, ρ3, ρ4] 0 [some (am_r 2), some (am_l x1), none, none, none] [] h (ak_qi Q X) := by
  rcases hu with rfl | rfl
  · exact ak_k_ok am_cc19 400 [(5, [true, true, false, true, false])] w
  · exact ak_k_ok am_cc19 400 [(5, [true, true, false, true, false])] w
set_option maxRecDepth 100000 in
theorem am_k19_5 {e : ak_X3} {d : Nat} {ρ0 ρ3 ρ4 : Nat} {h : ak_S} {Q : Int → ak_S → Prop} {X : Nat → ak_S → Prop} {u : Nat} (hu : u = 0 ∨ u = 1) {x1 x3 : Int} (w :
  (x3 < 0 →
    Q ((-1)) h)
  ∧ (0 ≤ x3 →
    ak_MI e 0 d [ρ0, ak_T u, ak_T u + 1, ρ3, ρ4] 18 [am_r 2, am_i x3, am_l x1] h (fun v2 h1 =>
      (v2 < 0 →
        ak_W0 e 0 d 19 [ρ0, ak_T u, ak_T u + 1, ρ3, ρ4] 5 [some (am_r 2), some (am_l x1), none, some (am_i (am_w32 (x3 + (-1)))), none] [] h1 (ak_qi Q X))
      ∧ (0 ≤ v2 →
        Q (am_w32 ((am_w32 ((am_w32 ((h1.1 2 5) - x3)) * 16)) + v2)) h1)) (fun _ _ => False))) :
  ak_W0 e 0 d 19 [ρ0, ak_T u, ak_T u + 1, ρ3, ρ4] 5 [some (am_r 2), some (am_l x1), none, some (am_i x3), none] [] h (ak_qi Q X) := by
  rcases hu with rfl | rfl
  · exact ak_k_ok am_cc19 400 [(5, [true, true, false, true, false])] w
  · exact ak_k_ok am_cc19 400 [(5, [true, true, false, true, false])] w
theorem am_cc20 : am_co am_P 20 = am_lk am_rw20 ∧ am_hl am_P 20 = [] ∧ am_rtag (am_re am_P 20) = 0 := ⟨rfl, rfl, rfl⟩
set_option maxRecDepth 100000 in
theorem am_k20_0 {e : ak_X3} {d : Nat} {ρ0 ρ3 ρ4 : Nat} {h : ak_S} {Q : ak_S → Prop} {X : Nat → ak_S → Prop} {u : Nat} (hu : u = 0 ∨ u = 1) {x1 : Int} (w :
  ak_MV e 0 d [ρ0, ak_T u, ak_T u + 1, ρ3, ρ4] 12 [am_r 2, am_i 123, am_i x1] h (fun h1 =>
    ak_MV e 0 d [ρ0, ak_T u, ak_T u + 1, ρ3, ρ4] 21 [am_r 2, am_i 125, am_i (am_w32 (x1 + 1))] h1 (fun h2 =>
      Q h2) X) X) :
  ak_W0 e 0 d 20 [ρ0, ak_T u, ak_T u + 1, ρ3, ρ4] 0 [some (am_r 2), some (am_i x1)] [] h (ak_qv Q X) := by
  rcases hu with rfl | rfl
  · exact ak_k_ok am_cc20 400 [] w
  · exact ak_k_ok am_cc20 400 [] w
theorem am_cc21 : am_co am_P 21 = am_lk am_rw21 ∧ am_hl am_P 21 = [] ∧ am_rtag (am_re am_P 21) = 0 := ⟨rfl, rfl, rfl⟩
set_option maxRecDepth 100000 in
theorem am_k21_0 {e : ak_X3} {d : Nat} {ρ0 ρ3 ρ4 : Nat} {h : ak_S} {Q : ak_S → Prop} {X : Nat → ak_S → Prop} {u : Nat} (hu : u = 0 ∨ u = 1) {x1 x2 : Int} (w :
  ak_W0 e 0 d 21 [ρ0, ak_T u, ak_T u + 1, ρ3, ρ4] 2 [some (am_r 2), some (am_i x1), some (am_i x2), some (am_i 0)] [] h (ak_qv Q X)) :
  ak_W0 e 0 d 21 [ρ0, ak_T u, ak_T u + 1, ρ3, ρ4] 0 [some (am_r 2), some (am_i x1), some (am_i x2), none] [] h (ak_qv Q X) := by
  rcases hu with rfl | rfl
  · exact ak_k_ok am_cc21 400 [(2, [true, true, true, true])] w
  · exact ak_k_ok am_cc21 400 [(2, [true, true, true, true])] w
set_option maxRecDepth 100000 in
theorem am_k21_2 {e : ak_X3} {d : Nat} {ρ0 ρ3 ρ4 : Nat} {h : ak_S} {Q : ak_S → Prop} {X : Nat → ak_S → Prop} {u : Nat} (hu : u = 0 ∨ u = 1) {x1 x2 x3 : Int} (w :
  (6000 ≤ x3 →
    ak_MV e 0 d [ρ0, ak_T u, ak_T u + 1, ρ3, ρ4] 11 [am_r 2, am_i x1] h (fun h1 =>
      Q h1) X)
  ∧ (x3 < 6000 →
    (h.1 3 8 = x1 →
      ak_MV e 0 d [ρ0, ak_T u, ak_T u + 1, ρ3, ρ4] 11 [am_r 2, am_i x1] h (fun h2 =>
        Q h2) X)
    ∧ (h.1 3 8 ≠ x1 →
      ak_MV e 0 d [ρ0, ak_T u, ak_T u + 1, ρ3, ρ4] 22 [am_r 2, am_i x2] h (fun h3 =>
        ak_W0 e 0 d 21 [ρ0, ak_T u, ak_T u + 1, ρ3, ρ4] 2 [some (am_r 2), some (am_i x1), some (am_i x2), some (am_i (am_w32 (x3 + 1)))] [] h3 (ak_qv Q X)) X))) :
  ak_W0 e 0 d 21 [ρ0, ak_T u, ak_T u + 1, ρ3, ρ4] 2 [some (am_r 2), some (am_i x1), some (am_i x2), some (am_i x3)] [] h (ak_qv Q X) := by
  rcases hu with rfl | rfl
  · exact ak_k_ok am_cc21 400 [(2, [true, true, true, true])] w
  · exact ak_k_ok am_cc21 400 [(2, [true, true, true, true])] w
theorem am_cc22 : am_co am_P 22 = am_lk am_rw22 ∧ am_hl am_P 22 = [] ∧ am_rtag (am_re am_P 22) = 0 := ⟨rfl, rfl, rfl⟩
set_option maxRecDepth 100000 in
theorem am_k22_0 {e : ak_X3} {d : Nat} {ρ0 ρ3 ρ4 : Nat} {h : ak_S} {Q : ak_S → Prop} {X : Nat → ak_S → Prop} {u : Nat} (hu : u = 0 ∨ u = 1) {x1 : Int} (w :
  ak_MI e 0 d [ρ0, ak_T u, ak_T u + 1, ρ3, ρ4] 3 [am_r ((ak_T u + 1)), am_i 26, am_i (h.1 3 9)] h (fun v2 h1 =>
    True ∧
      ((h.1 3 8 < 201 ∨ 217 < h.1 3 8) → ak_MV e 0 d [ρ0, ak_T u, ak_T u + 1, ρ3, ρ4] 24 [am_r 2, am_i x1] h1 (fun h3 =>
        Q h3) X) ∧
      (h.1 3 8 = 201 → ak_MV e 0 d [ρ0, ak_T u, ak_T u + 1, ρ3, ρ4] 23 [am_r 2, am_i x1] h1 (fun h4 =>
        Q h4) X) ∧
      (h.1 3 8 = 201 + 1 → ak_MV e 0 d [ρ0, ak_T u, ak_T u + 1, ρ3, ρ4] 28 [am_r 2, am_i x1] h1 (fun h5 =>
        Q h5) X) ∧
      (h.1 3 8 = 201 + 1 + 1 → ak_MV e 0 d [ρ0, ak_T u, ak_T u + 1, ρ3, ρ4] 24 [am_r 2, am_i x1] h1 (fun h6 =>
        Q h6) X) ∧
      (h.1 3 8 = 201 + 1 + 1 + 1 → ak_MV e 0 d [ρ0, ak_T u, ak_T u + 1, ρ3, ρ4] 29 [am_r 2, am_i v2, am_i x1] h1 (fun h7 =>
        Q h7) X) ∧
      (h.1 3 8 = 201 + 1 + 1 + 1 + 1 → ak_MV e 0 d [ρ0, ak_T u, ak_T u + 1, ρ3, ρ4] 30 [am_r 2, am_i (h.1 3 8), am_i x1] h1 (fun h8 =>
        Q h8) X) ∧
      (h.1 3 8 = 201 + 1 + 1 + 1 + 1 + 1 → ak_MV e 0 d [ρ0, ak_T u, ak_T u + 1, ρ3, ρ4] 30 [am_r 2, am_i (h.1 3 8), am_i x1] h1 (fun h9 =>
        Q h9) X) ∧
      (h.1 3 8 = 201 + 1 + 1 + 1 + 1 + 1 + 1 → ak_MV e 0 d [ρ0, ak_T u, ak_T u + 1, ρ3, ρ4] 30 [am_r 2, am_i (h.1 3 8), am_i x1] h1 (fun h10 =>
        Q h10) X) ∧
      (h.1 3 8 = 201 + 1 + 1 + 1 + 1 + 1 + 1 + 1 → ak_MV e 0 d [ρ0, ak_T u, ak_T u + 1, ρ3, ρ4] 31 [am_r 2, am_i x1] h1 (fun h11 =>
        Q h11) X) ∧
      (h.1 3 8 = 201 + 1 + 1 + 1 + 1 + 1 + 1 + 1 + 1 → ak_MV e 0 d [ρ0, ak_T u, ak_T u + 1, ρ3, ρ4] 32 [am_r 2, am_i x1] h1 (fun h12 =>
        Q h12) X) ∧
      (h.1 3 8 = 201 + 1 + 1 + 1 + 1 + 1 + 1 + 1 + 1 + 1 → ak_MV e 0 d [ρ0, ak_T u, ak_T u + 1, ρ3, ρ4] 24 [am_r 2, am_i x1] h1 (fun h13 =>
        Q h13) X) ∧
      (h.1 3 8 = 201 + 1 + 1 + 1 + 1 + 1 + 1 + 1 + 1 + 1 + 1 → ak_MV e 0 d [ρ0, ak_T u, ak_T u + 1, ρ3, ρ4] 24 [am_r 2, am_i x1] h1 (fun h14 =>
        Q h14) X) ∧
      (h.1 3 8 = 201 + 1 + 1 + 1 + 1 + 1 + 1 + 1 + 1 + 1 + 1 + 1 → ak_MV e 0 d [ρ0, ak_T u, ak_T u + 1, ρ3, ρ4] 25 [am_r 2, am_i x1] h1 (fun h15 =>
        Q h15) X) ∧
      (h.1 3 8 = 201 + 1 + 1 + 1 + 1 + 1 + 1 + 1 + 1 + 1 + 1 + 1 + 1 → ak_MV e 0 d [ρ0, ak_T u, ak_T u + 1, ρ3, ρ4] 26 [am_r 2, am_i (h.1 3 8), am_i x1] h1 (fun h16 =>
        Q h16) X) ∧
      (h.1 3 8 = 201 + 1 + 1 + 1 + 1 + 1 + 1 + 1 + 1 + 1 + 1 + 1 + 1 + 1 → ak_MV e 0 d [ρ0, ak_T u, ak_T u + 1, ρ3, ρ4] 26 [am_r 2, am_i (h.1 3 8), am_i x1] h1 (fun h17 =>
        Q h17) X) ∧
      (h.1 3 8 = 201 + 1 + 1 + 1 + 1 + 1 + 1 + 1 + 1 + 1 + 1 + 1 + 1 + 1 + 1 → ak_MV e 0 d [ρ0, ak_T u, ak_T u + 1, ρ3, ρ4] 26 [am_r 2, am_i (h.1 3 8), am_i x1] h1 (fun h18 =>
        Q h18) X) ∧
      (h.1 3 8 = 201 + 1 + 1 + 1 + 1 + 1 + 1 + 1 + 1 + 1 + 1 + 1 + 1 + 1 + 1 + 1 → ak_MV e 0 d [ρ0, ak_T u, ak_T u + 1, ρ3, ρ4] 27 [am_r 2, am_i (h.1 3 8), am_i x1] h1 (fun h19 =>
        Q h19) X) ∧
      (h.1 3 8 = 201 + 1 + 1 + 1 + 1 + 1 + 1 + 1 + 1 + 1 + 1 + 1 + 1 + 1 + 1 + 1 + 1 → ak_MV e 0 d [ρ0, ak_T u, ak_T u + 1, ρ3, ρ4] 27 [am_r 2, am_i (h.1 3 8), am_i x1] h1 (fun h20 =>
        Q h20) X) ∧ True) (fun _ _ => False)) :
  ak_W0 e 0 d 22 [ρ0, ak_T u, ak_T u + 1, ρ3, ρ4] 0 [some (am_r 2), some (am_i x1), none, none] [] h (ak_qv Q X) := by
  rcases hu with rfl | rfl
  · exact ak_k_ok am_cc22 400 [] w
  · exact ak_k_ok am_cc22 400 [] w
theorem am_cc23 : am_co am_P 23 = am_lk am_rw23 ∧ am_hl am_P 23 = [] ∧ am_rtag (am_re am_P 23) = 0 := ⟨rfl, rfl, rfl⟩
set_option maxRecDepth 100000 in
theorem am_k23_0 {e : ak_X3} {d : Nat} {ρ0 ρ3 ρ4 : Nat} {h : ak_S} {Q : ak_S → Prop} {X : Nat → ak_S → Prop} {u : Nat} (hu : u = 0 ∨ u = 1) {x1 : Int} (w :
  ak_MV e 0 d [ρ0, ak_T u, ak_T u + 1, ρ3, ρ4] 128 [am_r 3] h (fun h1 =>
    ak_MV e 0 d [ρ0, ak_T u, ak_T u + 1, ρ3, ρ4] 16 [am_r 2] h1 (fun h2 =>
      ak_MV e 0 d [ρ0, ak_T u, ak_T u + 1, ρ3, ρ4] 128 [am_r 3] h2 (fun h3 =>
        ak_MV e 0 d [ρ0, ak_T u, ak_T u + 1, ρ3, ρ4] 11 [am_r 2, am_i 61] h3 (fun h4 =>
          ak_MV e 0 d [ρ0, ak_T u, ak_T u + 1, ρ3, ρ4] 34 [am_r 2, am_i x1] h4 (fun h5 =>
            ak_MV e 0 d [ρ0, ak_T u, ak_T u + 1, ρ3, ρ4] 11 [am_r 2, am_i 59] h5 (fun h6 =>
              ak_MI e 0 d [ρ0, ak_T u, ak_T u + 1, ρ3, ρ4] 17 [am_r 2, am_l (h2.2.1 3 10)] h6 (fun v8 h7 =>
                ak_MI e 0 d [ρ0, ak_T u, ak_T u + 1, ρ3, ρ4] 3 [am_r ((ak_T u + 1)), am_i 27, am_i v8] h7 (fun v10 h9 =>
                  Q h9) (fun _ _ => False)) (fun _ _ => False)) X) X) X) (fun _ _ => False)) X) (fun _ _ => False)) :
  ak_W0 e 0 d 23 [ρ0, ak_T u, ak_T u + 1, ρ3, ρ4] 0 [some (am_r 2), some (am_i x1), none, none] [] h (ak_qv Q X) := by
  rcases hu with rfl | rfl
  · exact ak_k_ok am_cc23 400 [] w
  · exact ak_k_ok am_cc23 400 [] w
theorem am_cc24 : am_co am_P 24 = am_lk am_rw24 ∧ am_hl am_P 24 = [] ∧ am_rtag (am_re am_P 24) = 0 := ⟨rfl, rfl, rfl⟩
set_option maxRecDepth 100000 in
theorem am_k24_0 {e : ak_X3} {d : Nat} {ρ0 ρ3 ρ4 : Nat} {h : ak_S} {Q : ak_S → Prop} {X : Nat → ak_S → Prop} {u : Nat} (hu : u = 0 ∨ u = 1) {x1 : Int} (w :
  (h.1 3 8 ≠ 2 →
    ak_MV e 0 d [ρ0, ak_T u, ak_T u + 1, ρ3, ρ4] 34 [am_r 2, am_i x1] h (fun h1 =>
      ak_MI e 0 d [ρ0, ak_T u, ak_T u + 1, ρ3, ρ4] 3 [am_r ((ak_T u + 1)), am_i 28, am_i 0] h1 (fun v3 h2 =>
        ak_MV e 0 d [ρ0, ak_T u, ak_T u + 1, ρ3, ρ4] 11 [am_r 2, am_i 59] h2 (fun h4 =>
          Q h4) X) (fun _ _ => False)) X)
  ∧ (h.1 3 8 = 2 →
    ak_MI e 0 d [ρ0, ak_T u, ak_T u + 1, ρ3, ρ4] 129 [am_r 3] h (fun v6 h5 =>
      (v6 = 0 →
        ak_MV e 0 d [ρ0, ak_T u, ak_T u + 1, ρ3, ρ4] 34 [am_r 2, am_i x1] h5 (fun h7 =>
          ak_MI e 0 d [ρ0, ak_T u, ak_T u + 1, ρ3, ρ4] 3 [am_r ((ak_T u + 1)), am_i 28, am_i 0] h7 (fun v9 h8 =>
            ak_MV e 0 d [ρ0, ak_T u, ak_T u + 1, ρ3, ρ4] 11 [am_r 2, am_i 59] h8 (fun h10 =>
              Q h10) X) (fun _ _ => False)) X)
      ∧ (v6 ≠ 0 →
        ak_MI e 0 d [ρ0, ak_T u, ak_T u + 1, ρ3, ρ4] 19 [am_r 2, am_l (h5.2.1 3 10)] h5 (fun v12 h11 =>
          (v12 < 0 →
            ak_W0 e 0 d 24 [ρ0, ak_T u, ak_T u + 1, ρ3, ρ4] 42 [some (am_r 2), some (am_i x1), some (am_i v12)] [am_i 0] h11 (ak_qv Q X))
          ∧ (0 ≤ v12 →
            ak_W0 e 0 d 24 [ρ0, ak_T u, ak_T u + 1, ρ3, ρ4] 42 [some (am_r 2), some (am_i x1), some (am_i v12)] [am_i 1] h11 (ak_qv Q X))) (fun _ _ => False))) (fun _ _ => False))) :
  ak_W0 e 0 d 24 [ρ0, ak_T u, ak_T u + 1, ρ3, ρ4] 0 [some (am_r 2), some (am_i x1), none] [] h (ak_qv Q X) := by
  rcases hu with rfl | rfl
  · exact ak_k_ok am_cc24 400 [(42, [true, true, true])] w
  · exact ak_k_ok am_cc24 400 [(42, [true, true, true])] w
set_option maxRecDepth 100000 in
theorem am_k24_42 {e : ak_X3} {d : Nat} {ρ0 ρ3 ρ4 : Nat} {h : ak_S} {Q : ak_S → Prop} {X : Nat → ak_S → Prop} {u : Nat} (hu : u = 0 ∨ u = 1) {x1 x2 y0 : Int} (w :
  ak_MV e 0 d [ρ0, ak_T u, ak_T u + 1, ρ3, ρ4] 10 [am_i y0] h (fun h1 =>
    ak_MV e 0 d [ρ0, ak_T u, ak_T u + 1, ρ3, ρ4] 128 [am_r 3] h1 (fun h2 =>
      ak_MV e 0 d [ρ0, ak_T u, ak_T u + 1, ρ3, ρ4] 11 [am_r 2, am_i 61] h2 (fun h3 =>
        ak_MV e 0 d [ρ0, ak_T u, ak_T u + 1, ρ3, ρ4] 34 [am_r 2, am_i x1] h3 (fun h4 =>
          ak_MI e 0 d [ρ0, ak_T u, ak_T u + 1, ρ3, ρ4] 3 [am_r ((ak_T u + 1)), am_i 27, am_i x2] h4 (fun v6 h5 =>
            ak_MV e 0 d [ρ0, ak_T u, ak_T u + 1, ρ3, ρ4] 11 [am_r 2, am_i 59] h5 (fun h7 =>
              Q h7) X) (fun _ _ => False)) X) X) (fun _ _ => False)) X) :
  ak_W0 e 0 d 24 [ρ0, ak_T u, ak_T u + 1, ρ3, ρ4] 42 [some (am_r 2), some (am_i x1), some (am_i x2)] [am_i y0] h (ak_qv Q X) := by
  rcases hu with rfl | rfl
  · exact ak_k_ok am_cc24 400 [(42, [true, true, true])] w
  · exact ak_k_ok am_cc24 400 [(42, [true, true, true])] w
theorem am_cc25 : am_co am_P 25 = am_lk am_rw25 ∧ am_hl am_P 25 = [] ∧ am_rtag (am_re am_P 25) = 0 := ⟨rfl, rfl, rfl⟩
set_option maxRecDepth 100000 in
theorem am_k25_0 {e : ak_X3} {d : Nat} {ρ0 ρ3 ρ4 : Nat} {h : ak_S} {Q : ak_S → Prop} {X : Nat → ak_S → Prop} {u : Nat} (hu : u = 0 ∨ u = 1) {x1 : Int} (w :
  ak_MV e 0 d [ρ0, ak_T u, ak_T u + 1, ρ3, ρ4] 128 [am_r 3] h (fun h1 =>
    ak_MV e 0 d [ρ0, ak_T u, ak_T u + 1, ρ3, ρ4] 34 [am_r 2, am_i x1] h1 (fun h2 =>
      ak_MV e 0 d [ρ0, ak_T u, ak_T u + 1, ρ3, ρ4] 11 [am_r 2, am_i 44] h2 (fun h3 =>
        ak_MI e 0 d [ρ0, ak_T u, ak_T u + 1, ρ3, ρ4] 42 [am_r 2, am_i 2] h3 (fun v5 h4 =>
          ak_MV e 0 d [ρ0, ak_T u, ak_T u + 1, ρ3, ρ4] 11 [am_r 2, am_i 61] h4 (fun h6 =>
            ak_MV e 0 d [ρ0, ak_T u, ak_T u + 1, ρ3, ρ4] 34 [am_r 2, am_i x1] h6 (fun h7 =>
              ak_MV e 0 d [ρ0, ak_T u, ak_T u + 1, ρ3, ρ4] 11 [am_r 2, am_i 59] h7 (fun h8 =>
                ak_MI e 0 d [ρ0, ak_T u, ak_T u + 1, ρ3, ρ4] 3 [am_r ((ak_T u + 1)), am_i 20, am_i v5] h8 (fun v10 h9 =>
                  Q h9) (fun _ _ => False)) X) X) X) X) X) X) (fun _ _ => False)) :
  ak_W0 e 0 d 25 [ρ0, ak_T u, ak_T u + 1, ρ3, ρ4] 0 [some (am_r 2), some (am_i x1), none] [] h (ak_qv Q X) := by
  rcases hu with rfl | rfl
  · exact ak_k_ok am_cc25 400 [] w
  · exact ak_k_ok am_cc25 400 [] w
theorem am_cc26 : am_co am_P 26 = am_lk am_rw26 ∧ am_hl am_P 26 = [] ∧ am_rtag (am_re am_P 26) = 0 := ⟨rfl, rfl, rfl⟩
set_option maxRecDepth 100000 in
theorem am_k26_0 {e : ak_X3} {d : Nat} {ρ0 ρ3 ρ4 : Nat} {h : ak_S} {Q : ak_S → Prop} {X : Nat → ak_S → Prop} {u : Nat} (hu : u = 0 ∨ u = 1) {x1 x2 : Int} (w :
  ak_MV e 0 d [ρ0, ak_T u, ak_T u + 1, ρ3, ρ4] 128 [am_r 3] h (fun h1 =>
    ak_MV e 0 d [ρ0, ak_T u, ak_T u + 1, ρ3, ρ4] 34 [am_r 2, am_i x2] h1 (fun h2 =>
      ak_MV e 0 d [ρ0, ak_T u, ak_T u + 1, ρ3, ρ4] 11 [am_r 2, am_i 44] h2 (fun h3 =>
        ak_MI e 0 d [ρ0, ak_T u, ak_T u + 1, ρ3, ρ4] 43 [am_r 2] h3 (fun v5 h4 =>
          (x1 ≠ 213 →
            (x1 ≠ 214 →
              ak_MI e 0 d [ρ0, ak_T u, ak_T u + 1, ρ3, ρ4] 3 [am_r ((ak_T u + 1)), am_i 23, am_i v5] h4 (fun v7 h6 =>
                ak_MV e 0 d [ρ0, ak_T u, ak_T u + 1, ρ3, ρ4] 11 [am_r 2, am_i 59] h6 (fun h8 =>
                  Q h8) X) (fun _ _ => False))
            ∧ (x1 = 214 →
              ak_MV e 0 d [ρ0, ak_T u, ak_T u + 1, ρ3, ρ4] 11 [am_r 2, am_i 44] h4 (fun h9 =>
                (h9.1 3 8 ≠ 2 →
                  ak_MV e 0 d [ρ0, ak_T u, ak_T u + 1, ρ3, ρ4] 10 [am_i 0] h9 (fun h10 =>
                    ak_MI e 0 d [ρ0, ak_T u, ak_T u + 1, ρ3, ρ4] 135 [am_r ((ak_T u)), am_l (h10.2.1 3 10)] h10 (fun v12 h11 =>
                      (v12 < 0 →
                        ak_W0 e 0 d 26 [ρ0, ak_T u, ak_T u + 1, ρ3, ρ4] 113 [some (am_r 2), none, none, some (am_i v5), some (am_i v12)] [am_i 0] h11 (ak_qv Q X))
                      ∧ (0 ≤ v12 →
                        ak_W0 e 0 d 26 [ρ0, ak_T u, ak_T u + 1, ρ3, ρ4] 113 [some (am_r 2), none, none, some (am_i v5), some (am_i v12)] [am_i 1] h11 (ak_qv Q X))) (fun _ _ => False)) X)
                ∧ (h9.1 3 8 = 2 →
                  ak_MV e 0 d [ρ0, ak_T u, ak_T u + 1, ρ3, ρ4] 10 [am_i 1] h9 (fun h13 =>
                    ak_MI e 0 d [ρ0, ak_T u, ak_T u + 1, ρ3, ρ4] 135 [am_r ((ak_T u)), am_l (h13.2.1 3 10)] h13 (fun v15 h14 =>
                      (v15 < 0 →
                        ak_W0 e 0 d 26 [ρ0, ak_T u, ak_T u + 1, ρ3, ρ4] 113 [some (am_r 2), none, none, some (am_i v5), some (am_i v15)] [am_i 0] h14 (ak_qv Q X))
                      ∧ (0 ≤ v15 →
                        ak_W0 e 0 d 26 [ρ0, ak_T u, ak_T u + 1, ρ3, ρ4] 113 [some (am_r 2), none, none, some (am_i v5), some (am_i v15)] [am_i 1] h14 (ak_qv Q X))) (fun _ _ => False)) X)) X))
          ∧ (x1 = 213 →
            ak_MV e 0 d [ρ0, ak_T u, ak_T u + 1, ρ3, ρ4] 11 [am_r 2, am_i 61] h4 (fun h16 =>
              ak_MV e 0 d [ρ0, ak_T u, ak_T u + 1, ρ3, ρ4] 34 [am_r 2, am_i x2] h16 (fun h17 =>
                ak_MI e 0 d [ρ0, ak_T u, ak_T u + 1, ρ3, ρ4] 3 [am_r ((ak_T u + 1)), am_i 21, am_i v5] h17 (fun v19 h18 =>
                  ak_MV e 0 d [ρ0, ak_T u, ak_T u + 1, ρ3, ρ4] 11 [am_r 2, am_i 59] h18 (fun h20 =>
                    Q h20) X) (fun _ _ => False)) X) X)) X) X) X) (fun _ _ => False)) :
  ak_W0 e 0 d 26 [ρ0, ak_T u, ak_T u + 1, ρ3, ρ4] 0 [some (am_r 2), some (am_i x1), some (am_i x2), none, none] [] h (ak_qv Q X) := by
  rcases hu with rfl | rfl
  · exact ak_k_ok am_cc26 400 [(113, [true, false, false, true, true])] w
  · exact ak_k_ok am_cc26 400 [(113, [true, false, false, true, true])] w
set_option maxRecDepth 100000 in
theorem am_k26_113 {e : ak_X3} {d : Nat} {ρ0 ρ3 ρ4 : Nat} {h : ak_S} {Q : ak_S → Prop} {X : Nat → ak_S → Prop} {u : Nat} (hu : u = 0 ∨ u = 1) {x3 x4 y0 : Int} (w :
  ak_MV e 0 d [ρ0, ak_T u, ak_T u + 1, ρ3, ρ4] 10 [am_i y0] h (fun h1 =>
    ak_MV e 0 d [ρ0, ak_T u, ak_T u + 1, ρ3, ρ4] 128 [am_r 3] h1 (fun h2 =>
      ak_MI e 0 d [ρ0, ak_T u, ak_T u + 1, ρ3, ρ4] 3 [am_r ((ak_T u + 1)), am_i 22, am_i (am_w32 ((am_w32 (x4 * 128)) + x3))] h2 (fun v4 h3 =>
        ak_MV e 0 d [ρ0, ak_T u, ak_T u + 1, ρ3, ρ4] 11 [am_r 2, am_i 59] h3 (fun h5 =>
          Q h5) X) (fun _ _ => False)) (fun _ _ => False)) X) :
  ak_W0 e 0 d 26 [ρ0, ak_T u, ak_T u + 1, ρ3, ρ4] 113 [some (am_r 2), none, none, some (am_i x3), some (am_i x4)] [am_i y0] h (ak_qv Q X) := by
  rcases hu with rfl | rfl
  · exact ak_k_ok am_cc26 400 [(113, [true, false, false, true, true])] w
  · exact ak_k_ok am_cc26 400 [(113, [true, false, false, true, true])] w
theorem am_cc27 : am_co am_P 27 = am_lk am_rw27 ∧ am_hl am_P 27 = [] ∧ am_rtag (am_re am_P 27) = 0 := ⟨rfl, rfl, rfl⟩
set_option maxRecDepth 100000 in
theorem am_k27_0 {e : ak_X3} {d : Nat} {ρ0 ρ3 ρ4 : Nat} {h : ak_S} {Q : ak_S → Prop} {X : Nat → ak_S → Prop} {u : Nat} (hu : u = 0 ∨ u = 1) {x1 x2 : Int} (w :
  ak_MV e 0 d [ρ0, ak_T u, ak_T u + 1, ρ3, ρ4] 128 [am_r 3] h (fun h1 =>
    ak_MV e 0 d [ρ0, ak_T u, ak_T u + 1, ρ3, ρ4] 34 [am_r 2, am_i x2] h1 (fun h2 =>
      ak_MV e 0 d [ρ0, ak_T u, ak_T u + 1, ρ3, ρ4] 11 [am_r 2, am_i 44] h2 (fun h3 =>
        ak_MV e 0 d [ρ0, ak_T u, ak_T u + 1, ρ3, ρ4] 34 [am_r 2, am_i x2] h3 (fun h4 =>
          ak_MV e 0 d [ρ0, ak_T u, ak_T u + 1, ρ3, ρ4] 11 [am_r 2, am_i 59] h4 (fun h5 =>
            (x1 ≠ 216 →
              ak_MI e 0 d [ρ0, ak_T u, ak_T u + 1, ρ3, ρ4] 3 [am_r ((ak_T u + 1)), am_i 25, am_i 0] h5 (fun v7 h6 =>
                Q h6) (fun _ _ => False))
            ∧ (x1 = 216 →
              ak_MI e 0 d [ρ0, ak_T u, ak_T u + 1, ρ3, ρ4] 3 [am_r ((ak_T u + 1)), am_i 24, am_i 0] h5 (fun v9 h8 =>
                Q h8) (fun _ _ => False))) X) X) X) X) (fun _ _ => False)) :
  ak_W0 e 0 d 27 [ρ0, ak_T u, ak_T u + 1, ρ3, ρ4] 0 [some (am_r 2), some (am_i x1), some (am_i x2)] [] h (ak_qv Q X) := by
  rcases hu with rfl | rfl
  · exact ak_k_ok am_cc27 400 [] w
  · exact ak_k_ok am_cc27 400 [] w
theorem am_cc28 : am_co am_P 28 = am_lk am_rw28 ∧ am_hl am_P 28 = [] ∧ am_rtag (am_re am_P 28) = 0 := ⟨rfl, rfl, rfl⟩
set_option maxRecDepth 100000 in
theorem am_k28_0 {e : ak_X3} {d : Nat} {ρ0 ρ3 ρ4 : Nat} {h : ak_S} {Q : ak_S → Prop} {X : Nat → ak_S → Prop} {u : Nat} (hu : u = 0 ∨ u = 1) {x1 : Int} (w :
  ak_MV e 0 d [ρ0, ak_T u, ak_T u + 1, ρ3, ρ4] 128 [am_r 3] h (fun h1 =>
    ak_MV e 0 d [ρ0, ak_T u, ak_T u + 1, ρ3, ρ4] 34 [am_r 2, am_i x1] h1 (fun h2 =>
      ak_MI e 0 d [ρ0, ak_T u, ak_T u + 1, ρ3, ρ4] 3 [am_r ((ak_T u + 1)), am_i 31, am_i 0] h2 (fun v4 h3 =>
        ak_MV e 0 d [ρ0, ak_T u, ak_T u + 1, ρ3, ρ4] 20 [am_r 2, am_i x1] h3 (fun h5 =>
          (h5.1 3 8 ≠ 203 →
            ak_MV e 0 d [ρ0, ak_T u, ak_T u + 1, ρ3, ρ4] 4 [am_r ((ak_T u + 1)), am_i v4] h5 (fun h6 =>
              Q h6) (fun _ _ => False))
          ∧ (h5.1 3 8 = 203 →
            ak_MV e 0 d [ρ0, ak_T u, ak_T u + 1, ρ3, ρ4] 128 [am_r 3] h5 (fun h7 =>
              ak_MI e 0 d [ρ0, ak_T u, ak_T u + 1, ρ3, ρ4] 3 [am_r ((ak_T u + 1)), am_i 30, am_i 0] h7 (fun v9 h8 =>
                ak_MV e 0 d [ρ0, ak_T u, ak_T u + 1, ρ3, ρ4] 4 [am_r ((ak_T u + 1)), am_i v4] h8 (fun h10 =>
                  ak_MV e 0 d [ρ0, ak_T u, ak_T u + 1, ρ3, ρ4] 20 [am_r 2, am_i x1] h10 (fun h11 =>
                    ak_MV e 0 d [ρ0, ak_T u, ak_T u + 1, ρ3, ρ4] 4 [am_r ((ak_T u + 1)), am_i v9] h11 (fun h12 =>
                      Q h12) (fun _ _ => False)) X) (fun _ _ => False)) (fun _ _ => False)) (fun _ _ => False))) X) (fun _ _ => False)) X) (fun _ _ => False)) :
  ak_W0 e 0 d 28 [ρ0, ak_T u, ak_T u + 1, ρ3, ρ4] 0 [some (am_r 2), some (am_i x1), none, none] [] h (ak_qv Q X) := by
  rcases hu with rfl | rfl
  · exact ak_k_ok am_cc28 400 [] w
  · exact ak_k_ok am_cc28 400 [] w
theorem am_cc29 : am_co am_P 29 = am_lk am_rw29 ∧ am_hl am_P 29 = [] ∧ am_rtag (am_re am_P 29) = 0 := ⟨rfl, rfl, rfl⟩
set_option maxRecDepth 100000 in
theorem am_k29_0 {e : ak_X3} {d : Nat} {ρ0 ρ3 ρ4 : Nat} {h : ak_S} {Q : ak_S → Prop} {X : Nat → ak_S → Prop} {u : Nat} (hu : u = 0 ∨ u = 1) {x1 x2 : Int} (w :
  ak_MV e 0 d [ρ0, ak_T u, ak_T u + 1, ρ3, ρ4] 128 [am_r 3] h (fun h1 =>
    ak_MV e 0 d [ρ0, ak_T u, ak_T u + 1, ρ3, ρ4] 34 [am_r 2, am_i x2] h1 (fun h2 =>
      ak_MI e 0 d [ρ0, ak_T u, ak_T u + 1, ρ3, ρ4] 3 [am_r ((ak_T u + 1)), am_i 31, am_i 0] h2 (fun v4 h3 =>
        ak_MV e 0 d [ρ0, ak_T u, ak_T u + 1, ρ3, ρ4] 20 [am_r 2, am_i x2] h3 (fun h5 =>
          ak_MI e 0 d [ρ0, ak_T u, ak_T u + 1, ρ3, ρ4] 3 [am_r ((ak_T u + 1)), am_i 30, am_i x1] h5 (fun v7 h6 =>
            ak_MV e 0 d [ρ0, ak_T u, ak_T u + 1, ρ3, ρ4] 4 [am_r ((ak_T u + 1)), am_i v4] h6 (fun h8 =>
              Q h8) (fun _ _ => False)) (fun _ _ => False)) X) (fun _ _ => False)) X) (fun _ _ => False)) :
  ak_W0 e 0 d 29 [ρ0, ak_T u, ak_T u + 1, ρ3, ρ4] 0 [some (am_r 2), some (am_i x1), some (am_i x2), none] [] h (ak_qv Q X) := by
  rcases hu with rfl | rfl
  · exact ak_k_ok am_cc29 400 [] w
  · exact ak_k_ok am_cc29 400 [] w
theorem am_cc30 : am_co am_P 30 = am_lk am_rw30 ∧ am_hl am_P 30 = [] ∧ am_rtag (am_re am_P 30) = 0 := ⟨rfl, rfl, rfl⟩
set_option maxRecDepth 100000 in
theorem am_k30_0 {e : ak_X3} {d : Nat} {ρ0 ρ3 ρ4 : Nat} {h : ak_S} {Q : ak_S → Prop} {X : Nat → ak_S → Prop} {u : Nat} (hu : u = 0 ∨ u = 1) {x1 x2 : Int} (w :
  ak_MV e 0 d [ρ0, ak_T u, ak_T u + 1, ρ3, ρ4] 128 [am_r 3] h (fun h1 =>
    ak_MV e 0 d [ρ0, ak_T u, ak_T u + 1, ρ3, ρ4] 34 [am_r 2, am_i x2] h1 (fun h2 =>
      ak_MV e 0 d [ρ0, ak_T u, ak_T u + 1, ρ3, ρ4] 11 [am_r 2, am_i 59] h2 (fun h3 =>
        (x1 ≠ 207 →
          (x1 ≠ 205 →
            ak_MI e 0 d [ρ0, ak_T u, ak_T u + 1, ρ3, ρ4] 3 [am_r ((ak_T u + 1)), am_i 33, am_i 0] h3 (fun v5 h4 =>
              Q h4) (fun _ _ => False))
          ∧ (x1 = 205 →
            (h3.1 2 5 ≤ 0 →
              ak_MI e 0 d [ρ0, ak_T u, ak_T u + 1, ρ3, ρ4] 3 [am_r ((ak_T u + 1)), am_i 33, am_i 0] h3 (fun v7 h6 =>
                Q h6) (fun _ _ => False))
            ∧ (0 < h3.1 2 5 →
              ak_MI e 0 d [ρ0, ak_T u, ak_T u + 1, ρ3, ρ4] 3 [am_r ((ak_T u + 1)), am_i 32, am_i 0] h3 (fun v9 h8 =>
                Q h8) (fun _ _ => False))))
        ∧ (x1 = 207 →
          ak_MI e 0 d [ρ0, ak_T u, ak_T u + 1, ρ3, ρ4] 3 [am_r ((ak_T u + 1)), am_i 29, am_i 0] h3 (fun v11 h10 =>
            Q h10) (fun _ _ => False))) X) X) (fun _ _ => False)) :
  ak_W0 e 0 d 30 [ρ0, ak_T u, ak_T u + 1, ρ3, ρ4] 0 [some (am_r 2), some (am_i x1), some (am_i x2)] [] h (ak_qv Q X) := by
  rcases hu with rfl | rfl
  · exact ak_k_ok am_cc30 400 [] w
  · exact ak_k_ok am_cc30 400 [] w
theorem am_cc31 : am_co am_P 31 = am_lk am_rw31 ∧ am_hl am_P 31 = [] ∧ am_rtag (am_re am_P 31) = 0 := ⟨rfl, rfl, rfl⟩
set_option maxRecDepth 100000 in
theorem am_k31_0 {e : ak_X3} {d : Nat} {ρ0 ρ3 ρ4 : Nat} {h : ak_S} {Q : ak_S → Prop} {X : Nat → ak_S → Prop} {u : Nat} (hu : u = 0 ∨ u = 1) {x1 : Int} (w :
  ak_MV e 0 d [ρ0, ak_T u, ak_T u + 1, ρ3, ρ4] 128 [am_r 3] h (fun h1 =>
    (h1.1 3 8 ≠ 3 →
      ak_W0 e 0 d 31 [ρ0, ak_T u, ak_T u + 1, ρ3, ρ4] 51 [some (am_r 2), some (am_i x1), none] [am_i 0] h1 (ak_qv Q X))
    ∧ (h1.1 3 8 = 3 →
      (am_lsign (h1.2.1 3 10) 20 < 0 →
        ak_W0 e 0 d 31 [ρ0, ak_T u, ak_T u + 1, ρ3, ρ4] 51 [some (am_r 2), some (am_i x1), none] [am_i 0] h1 (ak_qv Q X))
      ∧ (0 ≤ am_lsign (h1.2.1 3 10) 20 →
        (0 < am_lsign (h1.2.1 3 10) 99 →
          ak_W0 e 0 d 31 [ρ0, ak_T u, ak_T u + 1, ρ3, ρ4] 51 [some (am_r 2), some (am_i x1), none] [am_i 0] h1 (ak_qv Q X))
        ∧ (am_lsign (h1.2.1 3 10) 99 ≤ 0 →
          ak_W0 e 0 d 31 [ρ0, ak_T u, ak_T u + 1, ρ3, ρ4] 51 [some (am_r 2), some (am_i x1), none] [am_i 1] h1 (ak_qv Q X))))) (fun _ _ => False)) :
  ak_W0 e 0 d 31 [ρ0, ak_T u, ak_T u + 1, ρ3, ρ4] 0 [some (am_r 2), some (am_i x1), none] [] h (ak_qv Q X) := by
  rcases hu with rfl | rfl
  · exact ak_k_ok am_cc31 400 [(51, [true, true, false])] w
  · exact ak_k_ok am_cc31 400 [(51, [true, true, false])] w
set_option maxRecDepth 100000 in
theorem am_k31_51 {e : ak_X3} {d : Nat} {ρ0 ρ3 ρ4 : Nat} {h : ak_S} {Q : ak_S → Prop} {X : Nat → ak_S → Prop} {u : Nat} (hu : u = 0 ∨ u = 1) {x1 y0 : Int} (w :
  ak_MV e 0 d [ρ0, ak_T u, ak_T u + 1, ρ3, ρ4] 10 [am_i y0] h (fun h1 =>
    ak_MV e 0 d [ρ0, ak_T u, ak_T u + 1, ρ3, ρ4] 128 [am_r 3] h1 (fun h2 =>
      (h2.1 3 8 ≠ 44 →
        ak_MI e 0 d [ρ0, ak_T u, ak_T u + 1, ρ3, ρ4] 3 [am_r ((ak_T u + 1)), am_i 1, am_i 0] h2 (fun v4 h3 =>
          ak_MV e 0 d [ρ0, ak_T u, ak_T u + 1, ρ3, ρ4] 11 [am_r 2, am_i 59] h3 (fun h5 =>
            ak_MI e 0 d [ρ0, ak_T u, ak_T u + 1, ρ3, ρ4] 3 [am_r ((ak_T u + 1)), am_i 35, am_i (am_w32 (h1.2.1 3 10))] h5 (fun v7 h6 =>
              Q h6) (fun _ _ => False)) X) (fun _ _ => False))
      ∧ (h2.1 3 8 = 44 →
        ak_MV e 0 d [ρ0, ak_T u, ak_T u + 1, ρ3, ρ4] 128 [am_r 3] h2 (fun h8 =>
          ak_MV e 0 d [ρ0, ak_T u, ak_T u + 1, ρ3, ρ4] 34 [am_r 2, am_i x1] h8 (fun h9 =>
            ak_MV e 0 d [ρ0, ak_T u, ak_T u + 1, ρ3, ρ4] 11 [am_r 2, am_i 59] h9 (fun h10 =>
              ak_MI e 0 d [ρ0, ak_T u, ak_T u + 1, ρ3, ρ4] 3 [am_r ((ak_T u + 1)), am_i 35, am_i (am_w32 (h1.2.1 3 10))] h10 (fun v12 h11 =>
                Q h11) (fun _ _ => False)) X) X) (fun _ _ => False))) (fun _ _ => False)) X) :
  ak_W0 e 0 d 31 [ρ0, ak_T u, ak_T u + 1, ρ3, ρ4] 51 [some (am_r 2), some (am_i x1), none] [am_i y0] h (ak_qv Q X) := by
  rcases hu with rfl | rfl
  · exact ak_k_ok am_cc31 400 [(51, [true, true, false])] w
  · exact ak_k_ok am_cc31 400 [(51, [true, true, false])] w
theorem am_cc32 : am_co am_P 32 = am_lk am_rw32 ∧ am_hl am_P 32 = [] ∧ am_rtag (am_re am_P 32) = 0 := ⟨rfl, rfl, rfl⟩
set_option maxRecDepth 100000 in
theorem am_k32_0 {e : ak_X3} {d : Nat} {ρ0 ρ3 ρ4 : Nat} {h : ak_S} {Q : ak_S → Prop} {X : Nat → ak_S → Prop} {u : Nat} (hu : u = 0 ∨ u = 1) {x1 : Int} (w :
  ak_MV e 0 d [ρ0, ak_T u, ak_T u + 1, ρ3, ρ4] 128 [am_r 3] h (fun h1 =>
    ak_MI e 0 d [ρ0, ak_T u, ak_T u + 1, ρ3, ρ4] 5 [am_r ((ak_T u + 1))] h1 (fun v3 h2 =>
      ak_MI e 0 d [ρ0, ak_T u, ak_T u + 1, ρ3, ρ4] 3 [am_r ((ak_T u + 1)), am_i 36, am_i v3] h2 (fun v5 h4 =>
        ak_MV e 0 d [ρ0, ak_T u, ak_T u + 1, ρ3, ρ4] 20 [am_r 2, am_i x1] h4 (fun h6 =>
          ak_MI e 0 d [ρ0, ak_T u, ak_T u + 1, ρ3, ρ4] 3 [am_r ((ak_T u + 1)), am_i 37, am_i v3] h6 (fun v8 h7 =>
            (h7.1 3 8 = 210 →
              ak_MV e 0 d [ρ0, ak_T u, ak_T u + 1, ρ3, ρ4] 10 [am_i 1] h7 (fun h9 =>
                ak_W0 e 0 d 32 [ρ0, ak_T u, ak_T u + 1, ρ3, ρ4] 78 [some (am_r 2), some (am_i x1), some (am_i v3), some (am_i 0)] [] h9 (ak_qv Q X)) X)
            ∧ (h7.1 3 8 ≠ 210 →
              (h7.1 3 8 ≠ 211 →
                ak_MV e 0 d [ρ0, ak_T u, ak_T u + 1, ρ3, ρ4] 10 [am_i 0] h7 (fun h10 =>
                  ak_W0 e 0 d 32 [ρ0, ak_T u, ak_T u + 1, ρ3, ρ4] 78 [some (am_r 2), some (am_i x1), some (am_i v3), some (am_i 0)] [] h10 (ak_qv Q X)) X)
              ∧ (h7.1 3 8 = 211 →
                ak_MV e 0 d [ρ0, ak_T u, ak_T u + 1, ρ3, ρ4] 10 [am_i 1] h7 (fun h11 =>
                  ak_W0 e 0 d 32 [ρ0, ak_T u, ak_T u + 1, ρ3, ρ4] 78 [some (am_r 2), some (am_i x1), some (am_i v3), some (am_i 0)] [] h11 (ak_qv Q X)) X))) (fun _ _ => False)) X) (fun _ _ => False)) (fun _ _ => False)) (fun _ _ => False)) :
  ak_W0 e 0 d 32 [ρ0, ak_T u, ak_T u + 1, ρ3, ρ4] 0 [some (am_r 2), some (am_i x1), none, none] [] h (ak_qv Q X) := by
  rcases hu with rfl | rfl
  · exact ak_k_ok am_cc32 400 [(78, [true, true, true, true]), (110, [true, true, true, false])] w
  · exact ak_k_ok am_cc32 400 [(78, [true, true, true, true]), (110, [true, true, true, false])] w
set_option maxRecDepth 100000 in
theorem am_k32_78 {e : ak_X3} {d : Nat} {ρ0 ρ3 ρ4 : Nat} {h : ak_S} {Q : ak_S → Prop} {X : Nat → ak_S → Prop} {u : Nat} (hu : u = 0 ∨ u = 1) {x1 x2 x3 : Int} (w :
  (6000 ≤ x3 →
    ak_W0 e 0 d 32 [ρ0, ak_T u, ak_T u + 1, ρ3, ρ4] 110 [some (am_r 2), some (am_i x1), some (am_i x2), none] [] h (ak_qv Q X))
  ∧ (x3 < 6000 →
    (h.1 3 8 ≠ 210 →
      ak_W0 e 0 d 32 [ρ0, ak_T u, ak_T u + 1, ρ3, ρ4] 110 [some (am_r 2), some (am_i x1), some (am_i x2), none] [] h (ak_qv Q X))
    ∧ (h.1 3 8 = 210 →
      ak_MV e 0 d [ρ0, ak_T u, ak_T u + 1, ρ3, ρ4] 33 [am_r 2, am_i x2, am_i x1] h (fun h1 =>
        ak_W0 e 0 d 32 [ρ0, ak_T u, ak_T u + 1, ρ3, ρ4] 78 [some (am_r 2), some (am_i x1), some (am_i x2), some (am_i (am_w32 (x3 + 1)))] [] h1 (ak_qv Q X)) X))) :
  ak_W0 e 0 d 32 [ρ0, ak_T u, ak_T u + 1, ρ3, ρ4] 78 [some (am_r 2), some (am_i x1), some (am_i x2), some (am_i x3)] [] h (ak_qv Q X) := by
  rcases hu with rfl | rfl
  · exact ak_k_ok am_cc32 400 [(78, [true, true, true, true]), (110, [true, true, true, false])] w
  · exact ak_k_ok am_cc32 400 [(78, [true, true, true, true]), (110, [true, true, true, false])] w
set_option maxRecDepth 100000 in
theorem am_k32_110 {e : ak_X3} {d : Nat} {ρ0 ρ3 ρ4 : Nat} {h : ak_S} {Q : ak_S → Prop} {X : Nat → ak_S → Prop} {u : Nat} (hu : u = 0 ∨ u = 1) {x1 x2 : Int} (w :
  (h.1 3 8 ≠ 211 →
    (0 ≤ x2 ∧ x2 < (500 : Int)) ∧ Q ((am_up h.1 (ak_T u + 6) x2.toNat (h.1 (ak_T u + 1) 2)), h.2))
  ∧ (h.1 3 8 = 211 →
    ak_MV e 0 d [ρ0, ak_T u, ak_T u + 1, ρ3, ρ4] 128 [am_r 3] h (fun h1 =>
      (0 ≤ x2 ∧ x2 < (500 : Int)) ∧ ak_MV e 0 d [ρ0, ak_T u, ak_T u + 1, ρ3, ρ4] 20 [am_r 2, am_i x1] ((am_up h1.1 (ak_T u + 5) x2.toNat (h1.1 (ak_T u + 1) 2)), h1.2) (fun h2 =>
        ak_MI e 0 d [ρ0, ak_T u, ak_T u + 1, ρ3, ρ4] 3 [am_r ((ak_T u + 1)), am_i 38, am_i x2] h2 (fun v4 h3 =>
          (0 ≤ x2 ∧ x2 < (500 : Int)) ∧ Q ((am_up h3.1 (ak_T u + 6) x2.toNat (h3.1 (ak_T u + 1) 2)), h3.2)) (fun _ _ => False)) X) (fun _ _ => False))) :
  ak_W0 e 0 d 32 [ρ0, ak_T u, ak_T u + 1, ρ3, ρ4] 110 [some (am_r 2), some (am_i x1), some (am_i x2), none] [] h (ak_qv Q X) := by
  rcases hu with rfl | rfl
  · exact ak_k_ok am_cc32 400 [(78, [true, true, true, true]), (110, [true, true, true, false])] w
  · exact ak_k_ok am_cc32 400 [(78, [true, true, true, true]), (110, [true, true, true, false])] w
theorem am_cc33 : am_co am_P 33 = am_lk am_rw33 ∧ am_hl am_P 33 = [] ∧ am_rtag (am_re am_P 33) = 0 := ⟨rfl, rfl, rfl⟩
set_option maxRecDepth 100000 in
theorem am_k33_0 {e : ak_X3} {d : Nat} {ρ0 ρ3 ρ4 : Nat} {h : ak_S} {Q : ak_S → Prop} {X : Nat → ak_S → Prop} {u : Nat} (hu : u = 0 ∨ u = 1) {x1 x2 : Int} (w :
  ak_MV e 0 d [ρ0, ak_T u, ak_T u + 1, ρ3, ρ4] 128 [am_r 3] h (fun h1 =>
    (h1.1 3 8 ≠ 3 →
      ak_W0 e 0 d 33 [ρ0, ak_T u, ak_T u + 1, ρ3, ρ4] 37 [some (am_r 2), some (am_i x1), some (am_i x2), none] [am_i 0] h1 (ak_qv Q X))
    ∧ (h1.1 3 8 = 3 →
      (0 < am_lsign (h1.2.1 3 10) 99 →
        ak_W0 e 0 d 33 [ρ0, ak_T u, ak_T u + 1, ρ3, ρ4] 37 [some (am_r 2), some (am_i x1), some (am_i x2), none] [am_i 0] h1 (ak_qv Q X))
      ∧ (am_lsign (h1.2.1 3 10) 99 ≤ 0 →
        ak_W0 e 0 d 33 [ρ0, ak_T u, ak_T u + 1, ρ3, ρ4] 37 [some (am_r 2), some (am_i x1), some (am_i x2), none] [am_i 1] h1 (ak_qv Q X)))) (fun _ _ => False)) :
  ak_W0 e 0 d 33 [ρ0, ak_T u, ak_T u + 1, ρ3, ρ4] 0 [some (am_r 2), some (am_i x1), some (am_i x2), none] [] h (ak_qv Q X) := by
  rcases hu with rfl | rfl
  · exact ak_k_ok am_cc33 400 [(37, [true, true, true, false])] w
  · exact ak_k_ok am_cc33 400 [(37, [true, true, true, false])] w
set_option maxRecDepth 100000 in
theorem am_k33_37 {e : ak_X3} {d : Nat} {ρ0 ρ3 ρ4 : Nat} {h : ak_S} {Q : ak_S → Prop} {X : Nat → ak_S → Prop} {u : Nat} (hu : u = 0 ∨ u = 1) {x1 x2 y0 : Int} (w :
  ak_MV e 0 d [ρ0, ak_T u, ak_T u + 1, ρ3, ρ4] 10 [am_i y0] h (fun h1 =>
    ak_MV e 0 d [ρ0, ak_T u, ak_T u + 1, ρ3, ρ4] 128 [am_r 3] h1 (fun h2 =>
      ak_MV e 0 d [ρ0, ak_T u, ak_T u + 1, ρ3, ρ4] 16 [am_r 2] h2 (fun h3 =>
        ak_MI e 0 d [ρ0, ak_T u, ak_T u + 1, ρ3, ρ4] 17 [am_r 2, am_l (h3.2.1 3 10)] h3 (fun v5 h4 =>
          ak_MV e 0 d [ρ0, ak_T u, ak_T u + 1, ρ3, ρ4] 6 [am_r ((ak_T u + 1)), am_i x1, am_i (am_w32 (h1.2.1 3 10)), am_i v5] h4 (fun h6 =>
            ak_MV e 0 d [ρ0, ak_T u, ak_T u + 1, ρ3, ρ4] 128 [am_r 3] h6 (fun h7 =>
              ak_MV e 0 d [ρ0, ak_T u, ak_T u + 1, ρ3, ρ4] 20 [am_r 2, am_i x2] h7 (fun h8 =>
                ak_MI e 0 d [ρ0, ak_T u, ak_T u + 1, ρ3, ρ4] 3 [am_r ((ak_T u + 1)), am_i 37, am_i x1] h8 (fun v10 h9 =>
                  Q h9) (fun _ _ => False)) X) (fun _ _ => False)) (fun _ _ => False)) (fun _ _ => False)) X) (fun _ _ => False)) X) :
  ak_W0 e 0 d 33 [ρ0, ak_T u, ak_T u + 1, ρ3, ρ4] 37 [some (am_r 2), some (am_i x1), some (am_i x2), none] [am_i y0] h (ak_qv Q X) := by
  rcases hu with rfl | rfl
  · exact ak_k_ok am_cc33 400 [(37, [true, true, true, false])] w
  · exact ak_k_ok am_cc33 400 [(37, [true, true, true, false])] w
theorem am_cc34 : am_co am_P 34 = am_lk am_rw34 ∧ am_hl am_P 34 = [] ∧ am_rtag (am_re am_P 34) = 0 := ⟨rfl, rfl, rfl⟩
set_option maxRecDepth 100000 in
theorem am_k34_0 {e : ak_X3} {d : Nat} {ρ0 ρ3 ρ4 : Nat} {h : ak_S} {Q : ak_S → Prop} {X : Nat → ak_S → Prop} {u : Nat} (hu : u = 0 ∨ u = 1) {x1 : Int} (w :
  ak_MV e 0 d [ρ0, ak_T u, ak_T u + 1, ρ3, ρ4] 36 [am_r 2, am_i x1] h (fun h1 =>
    ak_MI e 0 d [ρ0, ak_T u, ak_T u + 1, ρ3, ρ4] 35 [am_i (h1.1 3 8)] h1 (fun v3 h2 =>
      (v3 < 0 →
        Q h2)
      ∧ (0 ≤ v3 →
        ak_MV e 0 d [ρ0, ak_T u, ak_T u + 1, ρ3, ρ4] 128 [am_r 3] h2 (fun h4 =>
          ak_MV e 0 d [ρ0, ak_T u, ak_T u + 1, ρ3, ρ4] 36 [am_r 2, am_i x1] h4 (fun h5 =>
            ak_MI e 0 d [ρ0, ak_T u, ak_T u + 1, ρ3, ρ4] 3 [am_r ((ak_T u + 1)), am_i v3, am_i 0] h5 (fun v7 h6 =>
              Q h6) (fun _ _ => False)) X) (fun _ _ => False))) (fun _ _ => False)) X) :
  ak_W0 e 0 d 34 [ρ0, ak_T u, ak_T u + 1, ρ3, ρ4] 0 [some (am_r 2), some (am_i x1), none] [] h (ak_qv Q X) := by
  rcases hu with rfl | rfl
  · exact ak_k_ok am_cc34 400 [] w
  · exact ak_k_ok am_cc34 400 [] w
theorem am_cc35 : am_co am_P 35 = am_lk am_rw35 ∧ am_hl am_P 35 = [] ∧ am_rtag (am_re am_P 35) = 1 := ⟨rfl, rfl, rfl⟩
set_option maxRecDepth 100000 in
theorem am_k35_0 {e : ak_X3} {d : Nat} {ρ0 ρ3 ρ4 : Nat} {h : ak_S} {Q : Int → ak_S → Prop} {X : Nat → ak_S → Prop} {u : Nat} (hu : u = 0 ∨ u = 1) {x0 : Int} (w :
  True ∧
    ((x0 ≠ 4 ∧ x0 ≠ 60 ∧ x0 ≠ 62 ∧ True) → Q ((-1)) h) ∧
    (x0 = 4 → Q 16 h) ∧
    (x0 = 60 → Q 14 h) ∧
    (x0 = 62 → Q 15 h) ∧ True) :
  ak_W0 e 0 d 35 [ρ0, ak_T u, ak_T u + 1, ρ3, ρ4] 0 [some (am_i x0)] [] h (ak_qi Q X) := by
  rcases hu with rfl | rfl
  · exact ak_k_ok am_cc35 400 [] w
  · exact ak_k_ok am_cc35 400 [] w
theorem am_cc36 : am_co am_P 36 = am_lk am_rw36 ∧ am_hl am_P 36 = [] ∧ am_rtag (am_re am_P 36) = 0 := ⟨rfl, rfl, rfl⟩
set_option maxRecDepth 100000 in
theorem am_k36_0 {e : ak_X3} {d : Nat} {ρ0 ρ3 ρ4 : Nat} {h : ak_S} {Q : ak_S → Prop} {X : Nat → ak_S → Prop} {u : Nat} (hu : u = 0 ∨ u = 1) {x1 : Int} (w :
  ak_MV e 0 d [ρ0, ak_T u, ak_T u + 1, ρ3, ρ4] 37 [am_r 2, am_i x1] h (fun h1 =>
    ak_W0 e 0 d 36 [ρ0, ak_T u, ak_T u + 1, ρ3, ρ4] 7 [some (am_r 2), some (am_i x1), some (am_i 0), none] [] h1 (ak_qv Q X)) X) :
  ak_W0 e 0 d 36 [ρ0, ak_T u, ak_T u + 1, ρ3, ρ4] 0 [some (am_r 2), some (am_i x1), none, none] [] h (ak_qv Q X) := by
  rcases hu with rfl | rfl
  · exact ak_k_ok am_cc36 400 [(7, [true, true, true, false]), (57, [true, true, true, false])] w
  · exact ak_k_ok am_cc36 400 [(7, [true, true, true, false]), (57, [true, true, true, false])] w
set_option maxRecDepth 100000 in
theorem am_k36_7 {e : ak_X3} {d : Nat} {ρ0 ρ3 ρ4 : Nat} {h : ak_S} {Q : ak_S → Prop} {X : Nat → ak_S → Prop} {u : Nat} (hu : u = 0 ∨ u = 1) {x1 x2 : Int} (w :
  (6000 ≤ x2 →
    Q h)
  ∧ (x2 < 6000 →
    (h.1 3 8 = 43 →
      (h.1 3 8 ≠ 43 →
        ak_W0 e 0 d 36 [ρ0, ak_T u, ak_T u + 1, ρ3, ρ4] 57 [some (am_r 2), some (am_i x1), some (am_i x2), none] [am_i 10] h (ak_qv Q X))
      ∧ (h.1 3 8 = 43 →
        ak_W0 e 0 d 36 [ρ0, ak_T u, ak_T u + 1, ρ3, ρ4] 57 [some (am_r 2), some (am_i x1), some (am_i x2), none] [am_i 9] h (ak_qv Q X)))
    ∧ (h.1 3 8 ≠ 43 →
      (h.1 3 8 ≠ 45 →
        Q h)
      ∧ (h.1 3 8 = 45 →
        (h.1 3 8 ≠ 43 →
          ak_W0 e 0 d 36 [ρ0, ak_T u, ak_T u + 1, ρ3, ρ4] 57 [some (am_r 2), some (am_i x1), some (am_i x2), none] [am_i 10] h (ak_qv Q X))
        ∧ (h.1 3 8 = 43 →
          ak_W0 e 0 d 36 [ρ0, ak_T u, ak_T u + 1, ρ3, ρ4] 57 [some (am_r 2), some (am_i x1), some (am_i x2), none] [am_i 9] h (ak_qv Q X)))))) :
  ak_W0 e 0 d 36 [ρ0, ak_T u, ak_T u + 1, ρ3, ρ4] 7 [some (am_r 2), some (am_i x1), some (am_i x2), none] [] h (ak_qv Q X) := by
  rcases hu with rfl | rfl
  · exact ak_k_ok am_cc36 400 [(7, [true, true, true, false]), (57, [true, true, true, false])] w
  · exact ak_k_ok am_cc36 400 [(7, [true, true, true, false]), (57, [true, true, true, false])] w
set_option maxRecDepth 100000 in
theorem am_k36_57 {e : ak_X3} {d : Nat} {ρ0 ρ3 ρ4 : Nat} {h : ak_S} {Q : ak_S → Prop} {X : Nat → ak_S → Prop} {u : Nat} (hu : u = 0 ∨ u = 1) {x1 x2 y0 : Int} (w :
  ak_MV e 0 d [ρ0, ak_T u, ak_T u + 1, ρ3, ρ4] 128 [am_r 3] h (fun h1 =>
    ak_MV e 0 d [ρ0, ak_T u, ak_T u + 1, ρ3, ρ4] 37 [am_r 2, am_i x1] h1 (fun h2 =>
      ak_MI e 0 d [ρ0, ak_T u, ak_T u + 1, ρ3, ρ4] 3 [am_r ((ak_T u + 1)), am_i y0, am_i 0] h2 (fun v4 h3 =>
        ak_W0 e 0 d 36 [ρ0, ak_T u, ak_T u + 1, ρ3, ρ4] 7 [some (am_r 2), some (am_i x1), some (am_i (am_w32 (x2 + 1))), none] [] h3 (ak_qv Q X)) (fun _ _ => False)) X) (fun _ _ => False)) :
  ak_W0 e 0 d 36 [ρ0, ak_T u, ak_T u + 1, ρ3, ρ4] 57 [some (am_r 2), some (am_i x1), some (am_i x2), none] [am_i y0] h (ak_qv Q X) := by
  rcases hu with rfl | rfl
  · exact ak_k_ok am_cc36 400 [(7, [true, true, true, false]), (57, [true, true, true, false])] w
  · exact ak_k_ok am_cc36 400 [(7, [true, true, true, false]), (57, [true, true, true, false])] w
theorem am_cc37 : am_co am_P 37 = am_lk am_rw37 ∧ am_hl am_P 37 = [] ∧ am_rtag (am_re am_P 37) = 0 := ⟨rfl, rfl, rfl⟩
set_option maxRecDepth 100000 in
theorem am_k37_0 {e : ak_X3} {d : Nat} {ρ0 ρ3 ρ4 : Nat} {h : ak_S} {Q : ak_S → Prop} {X : Nat → ak_S → Prop} {u : Nat} (hu : u = 0 ∨ u = 1) {x1 : Int} (w :
  ak_MV e 0 d [ρ0, ak_T u, ak_T u + 1, ρ3, ρ4] 38 [am_r 2, am_i x1] h (fun h1 =>
    ak_W0 e 0 d 37 [ρ0, ak_T u, ak_T u + 1, ρ3, ρ4] 7 [some (am_r 2), some (am_i x1), some (am_i 0), none] [] h1 (ak_qv Q X)) X) :
  ak_W0 e 0 d 37 [ρ0, ak_T u, ak_T u + 1, ρ3, ρ4] 0 [some (am_r 2), some (am_i x1), none, none] [] h (ak_qv Q X) := by
  rcases hu with rfl | rfl
  · exact ak_k_ok am_cc37 400 [(7, [true, true, true, false]), (50, [true, true, true, false]), (86, [true, true, true, false])] w
  · exact ak_k_ok am_cc37 400 [(7, [true, true, true, false]), (50, [true, true, true, false]), (86, [true, true, true, false])] w
set_option maxRecDepth 100000 in
theorem am_k37_7 {e : ak_X3} {d : Nat} {ρ0 ρ3 ρ4 : Nat} {h : ak_S} {Q : ak_S → Prop} {X : Nat → ak_S → Prop} {u : Nat} (hu : u = 0 ∨ u = 1) {x1 x2 : Int} (w :
  (6000 ≤ x2 →
    Q h)
  ∧ (x2 < 6000 →
    (h.1 3 8 = 42 →
      ak_W0 e 0 d 37 [ρ0, ak_T u, ak_T u + 1, ρ3, ρ4] 50 [some (am_r 2), some (am_i x1), some (am_i x2), none] [] h (ak_qv Q X))
    ∧ (h.1 3 8 ≠ 42 →
      (h.1 3 8 = 47 →
        ak_W0 e 0 d 37 [ρ0, ak_T u, ak_T u + 1, ρ3, ρ4] 50 [some (am_r 2), some (am_i x1), some (am_i x2), none] [] h (ak_qv Q X))
      ∧ (h.1 3 8 ≠ 47 →
        (h.1 3 8 ≠ 37 →
          Q h)
        ∧ (h.1 3 8 = 37 →
          ak_W0 e 0 d 37 [ρ0, ak_T u, ak_T u + 1, ρ3, ρ4] 50 [some (am_r 2), some (am_i x1), some (am_i x2), none] [] h (ak_qv Q X)))))) :
  ak_W0 e 0 d 37 [ρ0, ak_T u, ak_T u + 1, ρ3, ρ4] 7 [some (am_r 2), some (am_i x1), some (am_i x2), none] [] h (ak_qv Q X) := by
  rcases hu with rfl | rfl
  · exact ak_k_ok am_cc37 400 [(7, [true, true, true, false]), (50, [true, true, true, false]), (86, [true, true, true, false])] w
  · exact ak_k_ok am_cc37 400 [(7, [true, true, true, false]), (50, [true, true, true, false]), (86, [true, true, true, false])] w
set_option maxRecDepth 100000 in
theorem am_k37_50 {e : ak_X3} {d : Nat} {ρ0 ρ3 ρ4 : Nat} {h : ak_S} {Q : ak_S → Prop} {X : Nat → ak_S → Prop} {u : Nat} (hu : u = 0 ∨ u = 1) {x1 x2 : Int} (w :
  (h.1 3 8 ≠ 42 →
    (h.1 3 8 ≠ 47 →
      ak_W0 e 0 d 37 [ρ0, ak_T u, ak_T u + 1, ρ3, ρ4] 86 [some (am_r 2), some (am_i x1), some (am_i x2), none] [am_i 13] h (ak_qv Q X))
    ∧ (h.1 3 8 = 47 →
      ak_W0 e 0 d 37 [ρ0, ak_T u, ak_T u + 1, ρ3, ρ4] 86 [some (am_r 2), some (am_i x1), some (am_i x2), none] [am_i 12] h (ak_qv Q X)))
  ∧ (h.1 3 8 = 42 →
    ak_W0 e 0 d 37 [ρ0, ak_T u, ak_T u + 1, ρ3, ρ4] 86 [some (am_r 2), some (am_i x1), some (am_i x2), none] [am_i 11] h (ak_qv Q X))) :
  ak_W0 e 0 d 37 [ρ0, ak_T u, ak_T u + 1, ρ3, ρ4] 50 [some (am_r 2), some (am_i x1), some (am_i x2), none] [] h (ak_qv Q X) := by
  rcases hu with rfl | rfl
  · exact ak_k_ok am_cc37 400 [(7, [true, true, true, false]), (50, [true, true, true, false]), (86, [true, true, true, false])] w
  · exact ak_k_ok am_cc37 400 [(7, [true, true, true, false]), (50, [true, true, true, false]), (86, [true, true, true, false])] w
set_option maxRecDepth 100000 in
theorem am_k37_86 {e : ak_X3} {d : Nat} {ρ0 ρ3 ρ4 : Nat} {h : ak_S} {Q : ak_S → Prop} {X : Nat → ak_S → Prop} {u : Nat} (hu : u = 0 ∨ u = 1) {x1 x2 y0 : Int} (w :
  ak_MV e 0 d [ρ0, ak_T u, ak_T u + 1, ρ3, ρ4] 128 [am_r 3] h (fun h1 =>
    ak_MV e 0 d [ρ0, ak_T u, ak_T u + 1, ρ3, ρ4] 38 [am_r 2, am_i x1] h1 (fun h2 =>
      ak_MI e 0 d [ρ0, ak_T u, ak_T u + 1, ρ3, ρ4] 3 [am_r ((ak_T u + 1)), am_i y0, am_i 0] h2 (fun v4 h3 =>
        ak_W0 e 0 d 37 [ρ0, ak_T u, ak_T u + 1, ρ3, ρ4] 7 [some (am_r 2), some (am_i x1), some (am_i (am_w32 (x2 + 1))), none] [] h3 (ak_qv Q X)) (fun _ _ => False)) X) (fun _ _ => False)) :
  ak_W0 e 0 d 37 [ρ0, ak_T u, ak_T u + 1, ρ3, ρ4] 86 [some (am_r 2), some (am_i x1), some (am_i x2), none] [am_i y0] h (ak_qv Q X) := by
  rcases hu with rfl | rfl
  · exact ak_k_ok am_cc37 400 [(7, [true, true, true, false]), (50, [true, true, true, false]), (86, [true, true, true, false])] w
  · exact ak_k_ok am_cc37 400 [(7, [true, true, true, false]), (50, [true, true, true, false]), (86, [true, true, true, false])] w
theorem am_cc38 : am_co am_P 38 = am_lk am_rw38 ∧ am_hl am_P 38 = [] ∧ am_rtag (am_re am_P 38) = 0 := ⟨rfl, rfl, rfl⟩
set_option maxRecDepth 100000 in
theorem am_k38_0 {e : ak_X3} {d : Nat} {ρ0 ρ3 ρ4 : Nat} {h : ak_S} {Q : ak_S → Prop} {X : Nat → ak_S → Prop} {u : Nat} (hu : u = 0 ∨ u = 1) {x1 : Int} (w :
  ak_W0 e 0 d 38 [ρ0, ak_T u, ak_T u + 1, ρ3, ρ4] 2 [some (am_r 2), some (am_i x1), some (am_i 0), none] [] h (ak_qv Q X)) :
  ak_W0 e 0 d 38 [ρ0, ak_T u, ak_T u + 1, ρ3, ρ4] 0 [some (am_r 2), some (am_i x1), none, none] [] h (ak_qv Q X) := by
  rcases hu with rfl | rfl
  · exact ak_k_ok am_cc38 400 [(2, [true, true, true, false]), (41, [true, false, true, true])] w
  · exact ak_k_ok am_cc38 400 [(2, [true, true, true, false]), (41, [true, false, true, true])] w
set_option maxRecDepth 100000 in
theorem am_k38_2 {e : ak_X3} {d : Nat} {ρ0 ρ3 ρ4 : Nat} {h : ak_S} {Q : ak_S → Prop} {X : Nat → ak_S → Prop} {u : Nat} (hu : u = 0 ∨ u = 1) {x1 x2 : Int} (w :
  (6000 ≤ x2 →
    ak_MV e 0 d [ρ0, ak_T u, ak_T u + 1, ρ3, ρ4] 39 [am_r 2, am_i x1] h (fun h1 =>
      ak_W0 e 0 d 38 [ρ0, ak_T u, ak_T u + 1, ρ3, ρ4] 41 [some (am_r 2), none, some (am_i x2), some (am_i 0)] [] h1 (ak_qv Q X)) X)
  ∧ (x2 < 6000 →
    (h.1 3 8 ≠ 45 →
      ak_MV e 0 d [ρ0, ak_T u, ak_T u + 1, ρ3, ρ4] 39 [am_r 2, am_i x1] h (fun h2 =>
        ak_W0 e 0 d 38 [ρ0, ak_T u, ak_T u + 1, ρ3, ρ4] 41 [some (am_r 2), none, some (am_i x2), some (am_i 0)] [] h2 (ak_qv Q X)) X)
    ∧ (h.1 3 8 = 45 →
      ak_MV e 0 d [ρ0, ak_T u, ak_T u + 1, ρ3, ρ4] 128 [am_r 3] h (fun h3 =>
        ak_W0 e 0 d 38 [ρ0, ak_T u, ak_T u + 1, ρ3, ρ4] 2 [some (am_r 2), some (am_i x1), some (am_i (am_w32 (x2 + 1))), none] [] h3 (ak_qv Q X)) (fun _ _ => False)))) :
  ak_W0 e 0 d 38 [ρ0, ak_T u, ak_T u + 1, ρ3, ρ4] 2 [some (am_r 2), some (am_i x1), some (am_i x2), none] [] h (ak_qv Q X) := by
  rcases hu with rfl | rfl
  · exact ak_k_ok am_cc38 400 [(2, [true, true, true, false]), (41, [true, false, true, true])] w
  · exact ak_k_ok am_cc38 400 [(2, [true, true, true, false]), (41, [true, false, true, true])] w
set_option maxRecDepth 100000 in
theorem am_k38_41 {e : ak_X3} {d : Nat} {ρ0 ρ3 ρ4 : Nat} {h : ak_S} {Q : ak_S → Prop} {X : Nat → ak_S → Prop} {u : Nat} (hu : u = 0 ∨ u = 1) {x2 x3 : Int} (w :
  (x2 ≤ x3 →
    Q h)
  ∧ (x3 < x2 →
    ak_MI e 0 d [ρ0, ak_T u, ak_T u + 1, ρ3, ρ4] 3 [am_r ((ak_T u + 1)), am_i 8, am_i 0] h (fun v2 h1 =>
      ak_W0 e 0 d 38 [ρ0, ak_T u, ak_T u + 1, ρ3, ρ4] 41 [some (am_r 2), none, some (am_i x2), some (am_i (am_w32 (x3 + 1)))] [] h1 (ak_qv Q X)) (fun _ _ => False))) :
  ak_W0 e 0 d 38 [ρ0, ak_T u, ak_T u + 1, ρ3, ρ4] 41 [some (am_r 2), none, some (am_i x2), some (am_i x3)] [] h (ak_qv Q X) := by
  rcases hu with rfl | rfl
  · exact ak_k_ok am_cc38 400 [(2, [true, true, true, false]), (41, [true, false, true, true])] w
  · exact ak_k_ok am_cc38 400 [(2, [true, true, true, false]), (41, [true, false, true, true])] w
theorem am_cc39 : am_co am_P 39 = am_lk am_rw39 ∧ am_hl am_P 39 = [] ∧ am_rtag (am_re am_P 39) = 0 := ⟨rfl, rfl, rfl⟩
set_option maxRecDepth 100000 in
theorem am_k39_0 {e : ak_X3} {d : Nat} {ρ0 ρ3 ρ4 : Nat} {h : ak_S} {Q : ak_S → Prop} {X : Nat → ak_S → Prop} {u : Nat} (hu : u = 0 ∨ u = 1) {x1 : Int} (w :
  ak_MV e 0 d [ρ0, ak_T u, ak_T u + 1, ρ3, ρ4] 44 [am_r 2, am_i x1] h (fun h1 =>
    ak_W0 e 0 d 39 [ρ0, ak_T u, ak_T u + 1, ρ3, ρ4] 7 [some (am_r 2), some (am_i x1), some (am_i 0)] [] h1 (ak_qv Q X)) X) :
  ak_W0 e 0 d 39 [ρ0, ak_T u, ak_T u + 1, ρ3, ρ4] 0 [some (am_r 2), some (am_i x1), none] [] h (ak_qv Q X) := by
  rcases hu with rfl | rfl
  · exact ak_k_ok am_cc39 400 [(7, [true, true, true]), (38, [true, true, true])] w
  · exact ak_k_ok am_cc39 400 [(7, [true, true, true]), (38, [true, true, true])] w
set_option maxRecDepth 100000 in
theorem am_k39_7 {e : ak_X3} {d : Nat} {ρ0 ρ3 ρ4 : Nat} {h : ak_S} {Q : ak_S → Prop} {X : Nat → ak_S → Prop} {u : Nat} (hu : u = 0 ∨ u = 1) {x1 x2 : Int} (w :
  (6000 ≤ x2 →
    Q h)
  ∧ (x2 < 6000 →
    (h.1 3 8 = 46 →
      ak_W0 e 0 d 39 [ρ0, ak_T u, ak_T u + 1, ρ3, ρ4] 38 [some (am_r 2), some (am_i x1), some (am_i x2)] [] h (ak_qv Q X))
    ∧ (h.1 3 8 ≠ 46 →
      (h.1 3 8 ≠ 33 →
        Q h)
      ∧ (h.1 3 8 = 33 →
        ak_W0 e 0 d 39 [ρ0, ak_T u, ak_T u + 1, ρ3, ρ4] 38 [some (am_r 2), some (am_i x1), some (am_i x2)] [] h (ak_qv Q X))))) :
  ak_W0 e 0 d 39 [ρ0, ak_T u, ak_T u + 1, ρ3, ρ4] 7 [some (am_r 2), some (am_i x1), some (am_i x2)] [] h (ak_qv Q X) := by
  rcases hu with rfl | rfl
  · exact ak_k_ok am_cc39 400 [(7, [true, true, true]), (38, [true, true, true])] w
  · exact ak_k_ok am_cc39 400 [(7, [true, true, true]), (38, [true, true, true])] w
set_option maxRecDepth 100000 in
theorem am_k39_38 {e : ak_X3} {d : Nat} {ρ0 ρ3 ρ4 : Nat} {h : ak_S} {Q : ak_S → Prop} {X : Nat → ak_S → Prop} {u : Nat} (hu : u = 0 ∨ u = 1) {x1 x2 : Int} (w :
  (h.1 3 8 ≠ 46 →
    ak_MV e 0 d [ρ0, ak_T u, ak_T u + 1, ρ3, ρ4] 128 [am_r 3] h (fun h1 =>
      ak_MI e 0 d [ρ0, ak_T u, ak_T u + 1, ρ3, ρ4] 41 [am_r 2, am_i x1] h1 (fun v3 h2 =>
        ak_MI e 0 d [ρ0, ak_T u, ak_T u + 1, ρ3, ρ4] 3 [am_r ((ak_T u + 1)), am_i 19, am_i v3] h2 (fun v5 h4 =>
          ak_W0 e 0 d 39 [ρ0, ak_T u, ak_T u + 1, ρ3, ρ4] 7 [some (am_r 2), some (am_i x1), some (am_i (am_w32 (x2 + 1)))] [] h4 (ak_qv Q X)) (fun _ _ => False)) X) (fun _ _ => False))
  ∧ (h.1 3 8 = 46 →
    ak_MV e 0 d [ρ0, ak_T u, ak_T u + 1, ρ3, ρ4] 40 [am_r 2, am_i 0, am_i x1] h (fun h6 =>
      ak_W0 e 0 d 39 [ρ0, ak_T u, ak_T u + 1, ρ3, ρ4] 7 [some (am_r 2), some (am_i x1), some (am_i (am_w32 (x2 + 1)))] [] h6 (ak_qv Q X)) X)) :
  ak_W0 e 0 d 39 [ρ0, ak_T u, ak_T u + 1, ρ3, ρ4] 38 [some (am_r 2), some (am_i x1), some (am_i x2)] [] h (ak_qv Q X) := by
  rcases hu with rfl | rfl
  · exact ak_k_ok am_cc39 400 [(7, [true, true, true]), (38, [true, true, true])] w
  · exact ak_k_ok am_cc39 400 [(7, [true, true, true]), (38, [true, true, true])] w
theorem am_cc40 : am_co am_P 40 = am_lk am_rw40 ∧ am_hl am_P 40 = [] ∧ am_rtag (am_re am_P 40) = 0 := ⟨rfl, rfl, rfl⟩
set_option maxRecDepth 100000 in
theorem am_k40_0 {e : ak_X3} {d : Nat} {ρ0 ρ3 ρ4 : Nat} {h : ak_S} {Q : ak_S → Prop} {X : Nat → ak_S → Prop} {u : Nat} (hu : u = 0 ∨ u = 1) {x1 x2 : Int} (w :
  ak_MV e 0 d [ρ0, ak_T u, ak_T u + 1, ρ3, ρ4] 11 [am_r 2, am_i 46] h (fun h1 =>
    ak_MI e 0 d [ρ0, ak_T u, ak_T u + 1, ρ3, ρ4] 42 [am_r 2, am_i x1] h1 (fun v3 h2 =>
      (h2.1 3 8 ≠ 40 →
        ak_W0 e 0 d 40 [ρ0, ak_T u, ak_T u + 1, ρ3, ρ4] 33 [some (am_r 2), some (am_i x1), none, some (am_i v3), none] [am_i 0] h2 (ak_qv Q X))
      ∧ (h2.1 3 8 = 40 →
        ak_MI e 0 d [ρ0, ak_T u, ak_T u + 1, ρ3, ρ4] 41 [am_r 2, am_i x2] h2 (fun v5 h4 =>
          ak_W0 e 0 d 40 [ρ0, ak_T u, ak_T u + 1, ρ3, ρ4] 33 [some (am_r 2), some (am_i x1), none, some (am_i v3), none] [am_i v5] h4 (ak_qv Q X)) X)) X) X) :
  ak_W0 e 0 d 40 [ρ0, ak_T u, ak_T u + 1, ρ3, ρ4] 0 [some (am_r 2), some (am_i x1), some (am_i x2), none, none] [] h (ak_qv Q X) := by
  rcases hu with rfl | rfl
  · exact ak_k_ok am_cc40 400 [(33, [true, true, false, true, false])] w
  · exact ak_k_ok am_cc40 400 [(33, [true, true, false, true, false])] w
set_option maxRecDepth 100000 in
theorem am_k40_33 {e : ak_X3} {d : Nat} {ρ0 ρ3 ρ4 : Nat} {h : ak_S} {Q : ak_S → Prop} {X : Nat → ak_S → Prop} {u : Nat} (hu : u = 0 ∨ u = 1) {x1 x3 y0 : Int} (w :
  (x1 ≠ 1 →
    ak_MI e 0 d [ρ0, ak_T u, ak_T u + 1, ρ3, ρ4] 3 [am_r ((ak_T u + 1)), am_i 17, am_i (am_w32 ((am_w32 (x3 * 8)) + y0))] h (fun v2 h1 =>
      Q h1) (fun _ _ => False))
  ∧ (x1 = 1 →
    ak_MI e 0 d [ρ0, ak_T u, ak_T u + 1, ρ3, ρ4] 3 [am_r ((ak_T u + 1)), am_i 18, am_i (am_w32 ((am_w32 (x3 * 8)) + y0))] h (fun v4 h3 =>
      Q h3) (fun _ _ => False))) :
  ak_W0 e 0 d 40 [ρ0, ak_T u, ak_T u + 1, ρ3, ρ4] 33 [some (am_r 2), some (am_i x1), none, some (am_i x3), none] [am_i y0] h (ak_qv Q X) := by
  rcases hu with rfl | rfl
  · exact ak_k_ok am_cc40 400 [(33, [true, true, false, true, false])] w
  · exact ak_k_ok am_cc40 400 [(33, [true, true, false, true, false])] w
theorem am_cc41 : am_co am_P 41 = am_lk am_rw41 ∧ am_hl am_P 41 = [] ∧ am_rtag (am_re am_P 41) = 1 := ⟨rfl, rfl, rfl⟩
set_option maxRecDepth 100000 in
theorem am_k41_0 {e : ak_X3} {d : Nat} {ρ0 ρ3 ρ4 : Nat} {h : ak_S} {Q : Int → ak_S → Prop} {X : Nat → ak_S → Prop} {u : Nat} (hu : u = 0 ∨ u = 1) {x1 : Int} (w :
  ak_MV e 0 d [ρ0, ak_T u, ak_T u + 1, ρ3, ρ4] 12 [am_r 2, am_i 40, am_i x1] h (fun h1 =>
    (h1.1 3 8 = 41 →
      ak_W0 e 0 d 41 [ρ0, ak_T u, ak_T u + 1, ρ3, ρ4] 27 [some (am_r 2), some (am_i x1), some (am_i 0), some (am_i 0)] [] h1 (ak_qi Q X))
    ∧ (h1.1 3 8 ≠ 41 →
      ak_W0 e 0 d 41 [ρ0, ak_T u, ak_T u + 1, ρ3, ρ4] 27 [some (am_r 2), some (am_i x1), some (am_i 0), some (am_i 1)] [] h1 (ak_qi Q X))) X) :
  ak_W0 e 0 d 41 [ρ0, ak_T u, ak_T u + 1, ρ3, ρ4] 0 [some (am_r 2), some (am_i x1), none, none] [] h (ak_qi Q X) := by
  rcases hu with rfl | rfl
  · exact ak_k_ok am_cc41 400 [(27, [true, true, true, true]), (46, [true, true, true, false])] w
  · exact ak_k_ok am_cc41 400 [(27, [true, true, true, true]), (46, [true, true, true, false])] w
set_option maxRecDepth 100000 in
theorem am_k41_27 {e : ak_X3} {d : Nat} {ρ0 ρ3 ρ4 : Nat} {h : ak_S} {Q : Int → ak_S → Prop} {X : Nat → ak_S → Prop} {u : Nat} (hu : u = 0 ∨ u = 1) {x1 x2 x3 : Int} (w :
  (x3 = 0 →
    ak_MV e 0 d [ρ0, ak_T u, ak_T u + 1, ρ3, ρ4] 11 [am_r 2, am_i 41] h (fun h1 =>
      Q x2 h1) X)
  ∧ (x3 ≠ 0 →
    (4 < x2 →
      ak_MV e 0 d [ρ0, ak_T u, ak_T u + 1, ρ3, ρ4] 11 [am_r 2, am_i 41] h (fun h2 =>
        Q x2 h2) X)
    ∧ (x2 ≤ 4 →
      (4 ≤ x2 →
        ak_W0 e 0 d 41 [ρ0, ak_T u, ak_T u + 1, ρ3, ρ4] 46 [some (am_r 2), some (am_i x1), some (am_i x2), none] [am_i 0] h (ak_qi Q X))
      ∧ (x2 < 4 →
        ak_W0 e 0 d 41 [ρ0, ak_T u, ak_T u + 1, ρ3, ρ4] 46 [some (am_r 2), some (am_i x1), some (am_i x2), none] [am_i 1] h (ak_qi Q X))))) :
  ak_W0 e 0 d 41 [ρ0, ak_T u, ak_T u + 1, ρ3, ρ4] 27 [some (am_r 2), some (am_i x1), some (am_i x2), some (am_i x3)] [] h (ak_qi Q X) := by
  rcases hu with rfl | rfl
  · exact ak_k_ok am_cc41 400 [(27, [true, true, true, true]), (46, [true, true, true, false])] w
  · exact ak_k_ok am_cc41 400 [(27, [true, true, true, true]), (46, [true, true, true, false])] w
set_option maxRecDepth 100000 in
theorem am_k41_46 {e : ak_X3} {d : Nat} {ρ0 ρ3 ρ4 : Nat} {h : ak_S} {Q : Int → ak_S → Prop} {X : Nat → ak_S → Prop} {u : Nat} (hu : u = 0 ∨ u = 1) {x1 x2 y0 : Int} (w :
  ak_MV e 0 d [ρ0, ak_T u, ak_T u + 1, ρ3, ρ4] 10 [am_i y0] h (fun h1 =>
    ak_MV e 0 d [ρ0, ak_T u, ak_T u + 1, ρ3, ρ4] 34 [am_r 2, am_i (am_w32 (x1 + 1))] h1 (fun h2 =>
      (h2.1 3 8 ≠ 44 →
        ((0 : Int) = 0 →
          ak_W0 e 0 d 41 [ρ0, ak_T u, ak_T u + 1, ρ3, ρ4] 27 [some (am_r 2), some (am_i x1), some (am_i (am_w32 (x2 + 1))), some (am_i 0)] [] h2 (ak_qi Q X))
        ∧ ((0 : Int) ≠ 0 →
          ak_MV e 0 d [ρ0, ak_T u, ak_T u + 1, ρ3, ρ4] 128 [am_r 3] h2 (fun h3 =>
            ak_W0 e 0 d 41 [ρ0, ak_T u, ak_T u + 1, ρ3, ρ4] 27 [some (am_r 2), some (am_i x1), some (am_i (am_w32 (x2 + 1))), some (am_i 0)] [] h3 (ak_qi Q X)) (fun _ _ => False)))
      ∧ (h2.1 3 8 = 44 →
        ((1 : Int) = 0 →
          ak_W0 e 0 d 41 [ρ0, ak_T u, ak_T u + 1, ρ3, ρ4] 27 [some (am_r 2), some (am_i x1), some (am_i (am_w32 (x2 + 1))), some (am_i 1)] [] h2 (ak_qi Q X))
        ∧ ((1 : Int) ≠ 0 →
          ak_MV e 0 d [ρ0, ak_T u, ak_T u + 1, ρ3, ρ4] 128 [am_r 3] h2 (fun h4 =>
            ak_W0 e 0 d 41 [ρ0, ak_T u, ak_T u + 1, ρ3, ρ4] 27 [some (am_r 2), some (am_i x1), some (am_i (am_w32 (x2 + 1))), some (am_i 1)] [] h4 (ak_qi Q X)) (fun _ _ => False)))) X) X) :
  ak_W0 e 0 d 41 [ρ0, ak_T u, ak_T u + 1, ρ3, ρ4] 46 [some (am_r 2), some (am_i x1), some (am_i x2), none] [am_i y0] h (ak_qi Q X) := by
  rcases hu with rfl | rfl
  · exact ak_k_ok am_cc41 400 [(27, [true, true, true, true]), (46, [true, true, true, false])] w
  · exact ak_k_ok am_cc41 400 [(27, [true, true, true, true]), (46, [true, true, true, false])] w
theorem am_cc42 : am_co am_P 42 = am_lk am_rw42 ∧ am_hl am_P 42 = [] ∧ am_rtag (am_re am_P 42) = 1 := ⟨rfl, rfl, rfl⟩
set_option maxRecDepth 100000 in
theorem am_k42_0 {e : ak_X3} {d : Nat} {ρ0 ρ3 ρ4 : Nat} {h : ak_S} {Q : Int → ak_S → Prop} {X : Nat → ak_S → Prop} {u : Nat} (hu : u = 0 ∨ u = 1) {x1 : Int} (w :
  (150 ≤ h.1 (ak_T u) 10 →
    ak_W0 e 0 d 42 [ρ0, ak_T u, ak_T u + 1, ρ3, ρ4] 18 [some (am_r 2), some (am_i x1), none, none, none] [am_i 0] h (ak_qi Q X))
  ∧ (h.1 (ak_T u) 10 < 150 →
    ak_W0 e 0 d 42 [ρ0, ak_T u, ak_T u + 1, ρ3, ρ4] 18 [some (am_r 2), some (am_i x1), none, none, none] [am_i 1] h (ak_qi Q X))) :
  ak_W0 e 0 d 42 [ρ0, ak_T u, ak_T u + 1, ρ3, ρ4] 0 [some (am_r 2), some (am_i x1), none, none, none] [] h (ak_qi Q X) := by
  rcases hu with rfl | rfl
  · exact ak_k_ok am_cc42 400 [(18, [true, true, false, false, false])] w
  · exact ak_k_ok am_cc42 400 [(18, [true, true, false, false, false])] w
set_option maxRecDepth 100000 in
theorem am_k42_18 {e : ak_X3} {d : Nat} {ρ0 ρ3 ρ4 : Nat} {h : ak_S} {Q : Int → ak_S → Prop} {X : Nat → ak_S → Prop} {u : Nat} (hu : u = 0 ∨ u = 1) {x1 y0 : Int} (w :
  ak_MV e 0 d [ρ0, ak_T u, ak_T u + 1, ρ3, ρ4] 10 [am_i y0] h (fun h1 =>
    ak_MI e 0 d [ρ0, ak_T u, ak_T u + 1, ρ3, ρ4] 43 [am_r 2] h1 (fun v3 h2 =>
      (0 ≤ h2.1 (ak_T u) 10 ∧ h2.1 (ak_T u) 10 < (150 : Int)) ∧ (0 ≤ h2.1 (ak_T u) 10 ∧ h2.1 (ak_T u) 10 < (150 : Int)) ∧ (0 ≤ h2.1 (ak_T u) 10 ∧ h2.1 (ak_T u) 10 < (150 : Int)) ∧ Q (h2.1 (ak_T u) 10) ((am_up (am_up (am_up (am_up h2.1 (ak_T u + 15) (h2.1 (ak_T u) 10).toNat x1) (ak_T u + 16) (h2.1 (ak_T u) 10).toNat v3) (ak_T u + 17) (h2.1 (ak_T u) 10).toNat (h1.1 3 9)) (ak_T u) 10 (am_w32 ((h2.1 (ak_T u) 10) + 1))), h2.2)) X) X) :
  ak_W0 e 0 d 42 [ρ0, ak_T u, ak_T u + 1, ρ3, ρ4] 18 [some (am_r 2), some (am_i x1), none, none, none] [am_i y0] h (ak_qi Q X) := by
  rcases hu with rfl | rfl
  · exact ak_k_ok am_cc42 400 [(18, [true, true, false, false, false])] w
  · exact ak_k_ok am_cc42 400 [(18, [true, true, false, false, false])] w
theorem am_cc43 : am_co am_P 43 = am_lk am_rw43 ∧ am_hl am_P 43 = [] ∧ am_rtag (am_re am_P 43) = 1 := ⟨rfl, rfl, rfl⟩
set_option maxRecDepth 100000 in
theorem am_k43_0 {e : ak_X3} {d : Nat} {ρ0 ρ3 ρ4 : Nat} {h : ak_S} {Q : Int → ak_S → Prop} {X : Nat → ak_S → Prop} {u : Nat} (hu : u = 0 ∨ u = 1) (w :
  (h.1 3 8 ≠ 2 →
    ak_W0 e 0 d 43 [ρ0, ak_T u, ak_T u + 1, ρ3, ρ4] 16 [some (am_r 2), none] [am_i 0] h (ak_qi Q X))
  ∧ (h.1 3 8 = 2 →
    ak_W0 e 0 d 43 [ρ0, ak_T u, ak_T u + 1, ρ3, ρ4] 16 [some (am_r 2), none] [am_i 1] h (ak_qi Q X))) :
  ak_W0 e 0 d 43 [ρ0, ak_T u, ak_T u + 1, ρ3, ρ4] 0 [some (am_r 2), none] [] h (ak_qi Q X) := by
  rcases hu with rfl | rfl
  · exact ak_k_ok am_cc43 400 [(16, [true, false])] w
  · exact ak_k_ok am_cc43 400 [(16, [true, false])] w
set_option maxRecDepth 100000 in
theorem am_k43_16 {e : ak_X3} {d : Nat} {ρ0 ρ3 ρ4 : Nat} {h : ak_S} {Q : Int → ak_S → Prop} {X : Nat → ak_S → Prop} {u : Nat} (hu : u = 0 ∨ u = 1) {y0 : Int} (w :
  ak_MV e 0 d [ρ0, ak_T u, ak_T u + 1, ρ3, ρ4] 10 [am_i y0] h (fun h1 =>
    ak_MI e 0 d [ρ0, ak_T u, ak_T u + 1, ρ3, ρ4] 136 [am_r ((ak_T u)), am_l (h1.2.1 3 10)] h1 (fun v3 h2 =>
      (v3 < 0 →
        ak_MV e 0 d [ρ0, ak_T u, ak_T u + 1, ρ3, ρ4] 10 [am_i 0] h2 (fun h4 =>
          ak_MV e 0 d [ρ0, ak_T u, ak_T u + 1, ρ3, ρ4] 128 [am_r 3] h4 (fun h5 =>
            Q v3 h5) (fun _ _ => False)) X)
      ∧ (0 ≤ v3 →
        ak_MV e 0 d [ρ0, ak_T u, ak_T u + 1, ρ3, ρ4] 10 [am_i 1] h2 (fun h6 =>
          ak_MV e 0 d [ρ0, ak_T u, ak_T u + 1, ρ3, ρ4] 128 [am_r 3] h6 (fun h7 =>
            Q v3 h7) (fun _ _ => False)) X)) (fun _ _ => False)) X) :
  ak_W0 e 0 d 43 [ρ0, ak_T u, ak_T u + 1, ρ3, ρ4] 16 [some (am_r 2), none] [am_i y0] h (ak_qi Q X) := by
  rcases hu with rfl | rfl
  · exact ak_k_ok am_cc43 400 [(16, [true, false])] w
  · exact ak_k_ok am_cc43 400 [(16, [true, false])] w
theorem am_cc44 : am_co am_P 44 = am_lk am_rw44 ∧ am_hl am_P 44 = [] ∧ am_rtag (am_re am_P 44) = 0 := ⟨rfl, rfl, rfl⟩
set_option maxRecDepth 100000 in
theorem am_k44_0 {e : ak_X3} {d : Nat} {ρ0 ρ3 ρ4 : Nat} {h : ak_S} {Q : ak_S → Prop} {X : Nat → ak_S → Prop} {u : Nat} (hu : u = 0 ∨ u = 1) {x1 : Int} (w :
  True ∧
    ((h.1 3 8 ≠ 40 ∧ h.1 3 8 ≠ 91 ∧ h.1 3 8 ≠ 218 ∧ h.1 3 8 ≠ 223 ∧ True) → ak_MV e 0 d [ρ0, ak_T u, ak_T u + 1, ρ3, ρ4] 46 [am_r 2] h (fun h1 =>
      Q h1) X) ∧
    (h.1 3 8 = 40 → ak_MV e 0 d [ρ0, ak_T u, ak_T u + 1, ρ3, ρ4] 45 [am_r 2, am_i x1] h (fun h2 =>
      Q h2) X) ∧
    (h.1 3 8 = 91 → ak_MV e 0 d [ρ0, ak_T u, ak_T u + 1, ρ3, ρ4] 47 [am_r 2, am_i x1] h (fun h3 =>
      Q h3) X) ∧
    (h.1 3 8 = 218 → ak_MV e 0 d [ρ0, ak_T u, ak_T u + 1, ρ3, ρ4] 128 [am_r 3] h (fun h4 =>
      ak_MV e 0 d [ρ0, ak_T u, ak_T u + 1, ρ3, ρ4] 45 [am_r 2, am_i x1] h4 (fun h5 =>
        ak_MI e 0 d [ρ0, ak_T u, ak_T u + 1, ρ3, ρ4] 3 [am_r ((ak_T u + 1)), am_i 5, am_i 0] h5 (fun v7 h6 =>
          Q h6) (fun _ _ => False)) X) (fun _ _ => False)) ∧
    (h.1 3 8 = 223 → ak_MV e 0 d [ρ0, ak_T u, ak_T u + 1, ρ3, ρ4] 128 [am_r 3] h (fun h8 =>
      ak_MI e 0 d [ρ0, ak_T u, ak_T u + 1, ρ3, ρ4] 3 [am_r ((ak_T u + 1)), am_i 2, am_i 0] h8 (fun v10 h9 =>
        ak_MV e 0 d [ρ0, ak_T u, ak_T u + 1, ρ3, ρ4] 40 [am_r 2, am_i 1, am_i x1] h9 (fun h11 =>
          Q h11) X) (fun _ _ => False)) (fun _ _ => False)) ∧ True) :
  ak_W0 e 0 d 44 [ρ0, ak_T u, ak_T u + 1, ρ3, ρ4] 0 [some (am_r 2), some (am_i x1)] [] h (ak_qv Q X) := by
  rcases hu with rfl | rfl
  · exact ak_k_ok am_cc44 400 [] w
  · exact ak_k_ok am_cc44 400 [] w
theorem am_cc45 : am_co am_P 45 = am_lk am_rw45 ∧ am_hl am_P 45 = [] ∧ am_rtag (am_re am_P 45) = 0 := ⟨rfl, rfl, rfl⟩
set_option maxRecDepth 100000 in
theorem am_k45_0 {e : ak_X3} {d : Nat} {ρ0 ρ3 ρ4 : Nat} {h : ak_S} {Q : ak_S → Prop} {X : Nat → ak_S → Prop} {u : Nat} (hu : u = 0 ∨ u = 1) {x1 : Int} (w :
  ak_MV e 0 d [ρ0, ak_T u, ak_T u + 1, ρ3, ρ4] 12 [am_r 2, am_i 40, am_i x1] h (fun h1 =>
    ak_MV e 0 d [ρ0, ak_T u, ak_T u + 1, ρ3, ρ4] 34 [am_r 2, am_i (am_w32 (x1 + 1))] h1 (fun h2 =>
      ak_MV e 0 d [ρ0, ak_T u, ak_T u + 1, ρ3, ρ4] 11 [am_r 2, am_i 41] h2 (fun h3 =>
        Q h3) X) X) X) :
  ak_W0 e 0 d 45 [ρ0, ak_T u, ak_T u + 1, ρ3, ρ4] 0 [some (am_r 2), some (am_i x1)] [] h (ak_qv Q X) := by
  rcases hu with rfl | rfl
  · exact ak_k_ok am_cc45 400 [] w
  · exact ak_k_ok am_cc45 400 [] w
theorem am_cc46 : am_co am_P 46 = am_lk am_rw46 ∧ am_hl am_P 46 = [] ∧ am_rtag (am_re am_P 46) = 0 := ⟨rfl, rfl, rfl⟩
set_option maxRecDepth 100000 in
theorem am_k46_0 {e : ak_X3} {d : Nat} {ρ0 ρ3 ρ4 : Nat} {h : ak_S} {Q : ak_S → Prop} {X : Nat → ak_S → Prop} {u : Nat} (hu : u = 0 ∨ u = 1) (w :
  True ∧
    ((h.1 3 8 ≠ 2 ∧ h.1 3 8 ≠ 3 ∧ h.1 3 8 ≠ 219 ∧ h.1 3 8 ≠ 220 ∧ h.1 3 8 ≠ 221 ∧ h.1 3 8 ≠ 222 ∧ True) → ak_MV e 0 d [ρ0, ak_T u, ak_T u + 1, ρ3, ρ4] 10 [am_i 0] h (fun h1 =>
      ak_MV e 0 d [ρ0, ak_T u, ak_T u + 1, ρ3, ρ4] 128 [am_r 3] h1 (fun h2 =>
        Q h2) (fun _ _ => False)) X) ∧
    (h.1 3 8 = 2 → ak_MI e 0 d [ρ0, ak_T u, ak_T u + 1, ρ3, ρ4] 19 [am_r 2, am_l (h.2.1 3 10)] h (fun v4 h3 =>
      (v4 < 0 →
        ak_MV e 0 d [ρ0, ak_T u, ak_T u + 1, ρ3, ρ4] 10 [am_i 0] h3 (fun h5 =>
          ak_MI e 0 d [ρ0, ak_T u, ak_T u + 1, ρ3, ρ4] 3 [am_r ((ak_T u + 1)), am_i 6, am_i v4] h5 (fun v7 h6 =>
            ak_MV e 0 d [ρ0, ak_T u, ak_T u + 1, ρ3, ρ4] 128 [am_r 3] h6 (fun h8 =>
              Q h8) (fun _ _ => False)) (fun _ _ => False)) X)
      ∧ (0 ≤ v4 →
        ak_MV e 0 d [ρ0, ak_T u, ak_T u + 1, ρ3, ρ4] 10 [am_i 1] h3 (fun h9 =>
          ak_MI e 0 d [ρ0, ak_T u, ak_T u + 1, ρ3, ρ4] 3 [am_r ((ak_T u + 1)), am_i 6, am_i v4] h9 (fun v11 h10 =>
            ak_MV e 0 d [ρ0, ak_T u, ak_T u + 1, ρ3, ρ4] 128 [am_r 3] h10 (fun h12 =>
              Q h12) (fun _ _ => False)) (fun _ _ => False)) X)) (fun _ _ => False)) ∧
    (h.1 3 8 = 3 → ak_MI e 0 d [ρ0, ak_T u, ak_T u + 1, ρ3, ρ4] 3 [am_r ((ak_T u + 1)), am_i 0, am_i (am_w32 (h.2.1 3 10))] h (fun v14 h13 =>
      ak_MV e 0 d [ρ0, ak_T u, ak_T u + 1, ρ3, ρ4] 128 [am_r 3] h13 (fun h15 =>
        Q h15) (fun _ _ => False)) (fun _ _ => False)) ∧
    (h.1 3 8 = 219 → ak_MI e 0 d [ρ0, ak_T u, ak_T u + 1, ρ3, ρ4] 3 [am_r ((ak_T u + 1)), am_i 4, am_i 0] h (fun v17 h16 =>
      ak_MV e 0 d [ρ0, ak_T u, ak_T u + 1, ρ3, ρ4] 128 [am_r 3] h16 (fun h18 =>
        Q h18) (fun _ _ => False)) (fun _ _ => False)) ∧
    (h.1 3 8 = 220 → ak_MI e 0 d [ρ0, ak_T u, ak_T u + 1, ρ3, ρ4] 3 [am_r ((ak_T u + 1)), am_i 1, am_i 0] h (fun v20 h19 =>
      ak_MV e 0 d [ρ0, ak_T u, ak_T u + 1, ρ3, ρ4] 128 [am_r 3] h19 (fun h21 =>
        Q h21) (fun _ _ => False)) (fun _ _ => False)) ∧
    (h.1 3 8 = 221 → ak_MI e 0 d [ρ0, ak_T u, ak_T u + 1, ρ3, ρ4] 3 [am_r ((ak_T u + 1)), am_i 2, am_i 0] h (fun v23 h22 =>
      ak_MV e 0 d [ρ0, ak_T u, ak_T u + 1, ρ3, ρ4] 128 [am_r 3] h22 (fun h24 =>
        Q h24) (fun _ _ => False)) (fun _ _ => False)) ∧
    (h.1 3 8 = 222 → ak_MI e 0 d [ρ0, ak_T u, ak_T u + 1, ρ3, ρ4] 3 [am_r ((ak_T u + 1)), am_i 3, am_i 0] h (fun v26 h25 =>
      ak_MV e 0 d [ρ0, ak_T u, ak_T u + 1, ρ3, ρ4] 128 [am_r 3] h25 (fun h27 =>
        Q h27) (fun _ _ => False)) (fun _ _ => False)) ∧ True) :
  ak_W0 e 0 d 46 [ρ0, ak_T u, ak_T u + 1, ρ3, ρ4] 0 [some (am_r 2), none] [] h (ak_qv Q X) := by
  rcases hu with rfl | rfl
  · exact ak_k_ok am_cc46 400 [] w
  · exact ak_k_ok am_cc46 400 [] w
theorem am_cc47 : am_co am_P 47 = am_lk am_rw47 ∧ am_hl am_P 47 = [] ∧ am_rtag (am_re am_P 47) = 0 := ⟨rfl, rfl, rfl⟩
set_option maxRecDepth 100000 in
theorem am_k47_0 {e : ak_X3} {d : Nat} {ρ0 ρ3 ρ4 : Nat} {h : ak_S} {Q : ak_S → Prop} {X : Nat → ak_S → Prop} {u : Nat} (hu : u = 0 ∨ u = 1) {x1 : Int} (w :
  (60 ≤ h.1 (ak_T u) 14 →
    ak_W0 e 0 d 47 [ρ0, ak_T u, ak_T u + 1, ρ3, ρ4] 17 [some (am_r 2), some (am_i x1), none, none, none] [am_i 0] h (ak_qv Q X))
  ∧ (h.1 (ak_T u) 14 < 60 →
    ak_W0 e 0 d 47 [ρ0, ak_T u, ak_T u + 1, ρ3, ρ4] 17 [some (am_r 2), some (am_i x1), none, none, none] [am_i 1] h (ak_qv Q X))) :
  ak_W0 e 0 d 47 [ρ0, ak_T u, ak_T u + 1, ρ3, ρ4] 0 [some (am_r 2), some (am_i x1), none, none, none] [] h (ak_qv Q X) := by
  rcases hu with rfl | rfl
  · exact ak_k_ok am_cc47 400 [(17, [true, true, false, false, false]), (124, [true, true, true, true, true])] w
  · exact ak_k_ok am_cc47 400 [(17, [true, true, false, false, false]), (124, [true, true, true, true, true])] w
set_option maxRecDepth 100000 in
theorem am_k47_17 {e : ak_X3} {d : Nat} {ρ0 ρ3 ρ4 : Nat} {h : ak_S} {Q : ak_S → Prop} {X : Nat → ak_S → Prop} {u : Nat} (hu : u = 0 ∨ u = 1) {x1 y0 : Int} (w :
  ak_MV e 0 d [ρ0, ak_T u, ak_T u + 1, ρ3, ρ4] 10 [am_i y0] h (fun h1 =>
    ak_MV e 0 d [ρ0, ak_T u, ak_T u + 1, ρ3, ρ4] 12 [am_r 2, am_i 91, am_i x1] h1 (fun h2 =>
      ak_MI e 0 d [ρ0, ak_T u, ak_T u + 1, ρ3, ρ4] 3 [am_r ((ak_T u + 1)), am_i 7, am_i (h2.1 (ak_T u) 14)] ((am_up h2.1 (ak_T u) 14 (am_w32 ((h2.1 (ak_T u) 14) + 1))), h2.2) (fun v4 h3 =>
        ak_MI e 0 d [ρ0, ak_T u, ak_T u + 1, ρ3, ρ4] 3 [am_r ((ak_T u + 1)), am_i 30, am_i 0] h3 (fun v6 h5 =>
          (0 ≤ am_w32 ((h5.1 2 5) + 1) ∧ am_w32 ((h5.1 2 5) + 1) < (21 : Int)) ∧ (h5.1 3 8 ≠ 124 →
            ak_W0 e 0 d 47 [ρ0, ak_T u, ak_T u + 1, ρ3, ρ4] 124 [some (am_r 2), some (am_i x1), some (am_i (h2.1 (ak_T u) 14)), some (am_i v6), some (am_i 0)] [] ((am_up (am_up h5.1 2 5 (am_w32 ((h5.1 2 5) + 1))) 31 (am_w32 ((h5.1 2 5) + 1)).toNat 0), h5.2) (ak_qv Q X))
          ∧ (h5.1 3 8 = 124 →
            ak_MV e 0 d [ρ0, ak_T u, ak_T u + 1, ρ3, ρ4] 128 [am_r 3] ((am_up (am_up h5.1 2 5 (am_w32 ((h5.1 2 5) + 1))) 31 (am_w32 ((h5.1 2 5) + 1)).toNat 0), h5.2) (fun h7 =>
              ak_MI e 0 d [ρ0, ak_T u, ak_T u + 1, ρ3, ρ4] 15 [am_r 2] h7 (fun v9 h8 =>
                ak_MV e 0 d [ρ0, ak_T u, ak_T u + 1, ρ3, ρ4] 11 [am_r 2, am_i 124] h8 (fun h10 =>
                  ak_W0 e 0 d 47 [ρ0, ak_T u, ak_T u + 1, ρ3, ρ4] 124 [some (am_r 2), some (am_i x1), some (am_i (h2.1 (ak_T u) 14)), some (am_i v6), some (am_i v9)] [] h10 (ak_qv Q X)) X) X) (fun _ _ => False))) (fun _ _ => False)) (fun _ _ => False)) X) X) :
  ak_W0 e 0 d 47 [ρ0, ak_T u, ak_T u + 1, ρ3, ρ4] 17 [some (am_r 2), some (am_i x1), none, none, none] [am_i y0] h (ak_qv Q X) := by
  rcases hu with rfl | rfl
  · exact ak_k_ok am_cc47 400 [(17, [true, true, false, false, false]), (124, [true, true, true, true, true])] w
  · exact ak_k_ok am_cc47 400 [(17, [true, true, false, false, false]), (124, [true, true, true, true, true])] w
set_option maxRecDepth 100000 in
theorem am_k47_124 {e : ak_X3} {d : Nat} {ρ0 ρ3 ρ4 : Nat} {h : ak_S} {Q : ak_S → Prop} {X : Nat → ak_S → Prop} {u : Nat} (hu : u = 0 ∨ u = 1) {x1 x2 x3 x4 : Int} (w :
  (0 ≤ x2 ∧ x2 < (60 : Int)) ∧ (0 ≤ x2 ∧ x2 < (60 : Int)) ∧ (0 ≤ x2 ∧ x2 < (60 : Int)) ∧ ak_MV e 0 d [ρ0, ak_T u, ak_T u + 1, ρ3, ρ4] 21 [am_r 2, am_i 93, am_i (am_w32 (x1 + 1))] ((am_up (am_up (am_up h.1 (ak_T u + 18) x2.toNat x4) (ak_T u + 20) x2.toNat (h.1 2 6)) (ak_T u + 19) x2.toNat (h.1 (ak_T u + 1) 2)), h.2) (fun h1 =>
    ak_MI e 0 d [ρ0, ak_T u, ak_T u + 1, ρ3, ρ4] 3 [am_r ((ak_T u + 1)), am_i 34, am_i 0] h1 (fun v3 h2 =>
      ak_MV e 0 d [ρ0, ak_T u, ak_T u + 1, ρ3, ρ4] 4 [am_r ((ak_T u + 1)), am_i x3] h2 (fun h4 =>
        Q ((am_up h4.1 2 5 (am_w32 ((h4.1 2 5) - 1))), h4.2)) (fun _ _ => False)) (fun _ _ => False)) X) :
  ak_W0 e 0 d 47 [ρ0, ak_T u, ak_T u + 1, ρ3, ρ4] 124 [some (am_r 2), some (am_i x1), some (am_i x2), some (am_i x3), some (am_i x4)] [] h (ak_qv Q X) := by
  rcases hu with rfl | rfl
  · exact ak_k_ok am_cc47 400 [(17, [true, true, false, false, false]), (124, [true, true, true, true, true])] w
  · exact ak_k_ok am_cc47 400 [(17, [true, true, false, false, false]), (124, [true, true, true, true, true])] w
