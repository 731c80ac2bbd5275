/-! rules of runs, methods 263 to 326 -/
theorem am_cc263 : am_co am_P 263 = am_lk am_rw263 ∧ am_hl am_P 263 = [] ∧ am_rtag (am_re am_P 263) = 0 := ⟨rfl, rfl, rfl⟩
set_option maxRecDepth 100000 in
theorem am_k263_0 {e : ak_X3} {d : Nat} {ρ : List Nat} {h : ak_S} {Q : ak_S → Prop} {X : Nat → ak_S → Prop} (w :
  (0 ≤ (0 : Int) ∧ (0 : Int) < (400 : Int)) ∧ ak_W0 e 1 d 263 ρ 24 [some (am_r 110), some (am_i 0), none] [] ((am_up (am_up (am_up (am_up h.1 110 46 0) 110 53 1) 147 0 0) 110 57 0), h.2) (ak_qv Q X)) :
  ak_W0 e 1 d 263 ρ 0 [some (am_r 110), none, none] [] h (ak_qv Q X) := ak_k_ok am_cc263 400 [(24, [true, true, false]), (42, [true, true, false]), (78, [true, true, false])] w
set_option maxRecDepth 100000 in
theorem am_k263_24 {e : ak_X3} {d : Nat} {ρ : List Nat} {h : ak_S} {Q : ak_S → Prop} {X : Nat → ak_S → Prop} {x1 : Int} (w :
  (4 ≤ x1 →
    ak_W0 e 1 d 263 ρ 42 [some (am_r 110), some (am_i 0), none] [] h (ak_qv Q X))
  ∧ (x1 < 4 →
    ak_MI e 1 d ρ 245 [am_r 110] h (fun v2 h1 =>
      ak_W0 e 1 d 263 ρ 24 [some (am_r 110), some (am_i (am_w32 (x1 + 1))), none] [] h1 (ak_qv Q X)) (fun _ _ => False))) :
  ak_W0 e 1 d 263 ρ 24 [some (am_r 110), some (am_i x1), none] [] h (ak_qv Q X) := ak_k_ok am_cc263 400 [(24, [true, true, false]), (42, [true, true, false]), (78, [true, true, false])] w
set_option maxRecDepth 100000 in
theorem am_k263_42 {e : ak_X3} {d : Nat} {ρ : List Nat} {h : ak_S} {Q : ak_S → Prop} {X : Nat → ak_S → Prop} {x1 : Int} (w :
  (564 ≤ x1 →
    ak_W0 e 1 d 263 ρ 78 [some (am_r 110), some (am_i 0), none] [] h (ak_qv Q X))
  ∧ (x1 < 564 →
    ((0 ≤ x1 ∧ x1 < (564 : Int)) ∧ ((0 : Int) = 0 ∨ (0 : Int) = 1)) ∧ ((0 ≤ x1 ∧ x1 < (564 : Int)) ∧ ((0 : Int) = 0 ∨ (0 : Int) = 1)) ∧ ((0 ≤ x1 ∧ x1 < (564 : Int)) ∧ ((0 : Int) = 0 ∨ (0 : Int) = 1)) ∧ ak_W0 e 1 d 263 ρ 42 [some (am_r 110), some (am_i (am_w32 (x1 + 1))), none] [] ((am_up (am_up (am_up h.1 173 x1.toNat 0) 174 x1.toNat 0) 175 x1.toNat 0), h.2) (ak_qv Q X))) :
  ak_W0 e 1 d 263 ρ 42 [some (am_r 110), some (am_i x1), none] [] h (ak_qv Q X) := ak_k_ok am_cc263 400 [(24, [true, true, false]), (42, [true, true, false]), (78, [true, true, false])] w
set_option maxRecDepth 100000 in
theorem am_k263_78 {e : ak_X3} {d : Nat} {ρ : List Nat} {h : ak_S} {Q : ak_S → Prop} {X : Nat → ak_S → Prop} {x1 : Int} (w :
  (40 ≤ x1 →
    ak_MV e 1 d ρ 252 [am_r 110] ((am_up (am_up h.1 110 67 ((-1))) 110 84 0), h.2) (fun h1 =>
      ak_MV e 1 d ρ 264 [am_r 110] h1 (fun h2 =>
        Q h2) (fun _ _ => False)) (fun _ _ => False))
  ∧ (x1 < 40 →
    (0 ≤ x1 ∧ x1 < (40 : Int)) ∧ ak_W0 e 1 d 263 ρ 78 [some (am_r 110), some (am_i (am_w32 (x1 + 1))), none] [] ((am_up h.1 186 x1.toNat 0), h.2) (ak_qv Q X))) :
  ak_W0 e 1 d 263 ρ 78 [some (am_r 110), some (am_i x1), none] [] h (ak_qv Q X) := ak_k_ok am_cc263 400 [(24, [true, true, false]), (42, [true, true, false]), (78, [true, true, false])] w
theorem am_cc264 : am_co am_P 264 = am_lk am_rw264 ∧ am_hl am_P 264 = [] ∧ am_rtag (am_re am_P 264) = 0 := ⟨rfl, rfl, rfl⟩
set_option maxRecDepth 100000 in
theorem am_k264_0 {e : ak_X3} {d : Nat} {ρ : List Nat} {h : ak_S} {Q : ak_S → Prop} {X : Nat → ak_S → Prop} (w :
  Q ((am_up (am_up (am_up (am_up (am_up (am_up h.1 110 106 0) 110 108 ((-1))) 110 109 0) 110 110 0) 110 111 0) 110 104 0), (am_up h.2.1 110 107 0), h.2.2)) :
  ak_W0 e 1 d 264 ρ 0 [some (am_r 110)] [] h (ak_qv Q X) := ak_k_ok am_cc264 400 [] w
theorem am_cc265 : am_co am_P 265 = am_lk am_rw265 ∧ am_hl am_P 265 = [] ∧ am_rtag (am_re am_P 265) = 0 := ⟨rfl, rfl, rfl⟩
set_option maxRecDepth 100000 in
theorem am_k265_0 {e : ak_X3} {d : Nat} {ρ : List Nat} {h : ak_S} {Q : ak_S → Prop} {X : Nat → ak_S → Prop} {x1 x2 : Int} (w :
  (0 ≤ h.1 110 127 ∧ h.1 110 127 < (20000 : Int)) ∧ (0 ≤ h.1 110 127 ∧ h.1 110 127 < (20000 : Int)) ∧ Q ((am_up (am_up h.1 199 (h.1 110 127).toNat x1) 110 127 (am_w32 ((h.1 110 127) + 1))), (am_up h.2.1 200 (h.1 110 127).toNat x2), h.2.2)) :
  ak_W0 e 1 d 265 ρ 0 [some (am_r 110), some (am_i x1), some (am_l x2), none] [] h (ak_qv Q X) := ak_k_ok am_cc265 400 [] w
theorem am_cc266 : am_co am_P 266 = am_lk am_rw266 ∧ am_hl am_P 266 = [] ∧ am_rtag (am_re am_P 266) = 0 := ⟨rfl, rfl, rfl⟩
set_option maxRecDepth 100000 in
theorem am_k266_0 {e : ak_X3} {d : Nat} {ρ : List Nat} {h : ak_S} {Q : ak_S → Prop} {X : Nat → ak_S → Prop} {x1 x2 x3 x4 : Int} (w :
  (0 ≤ h.1 110 132 ∧ h.1 110 132 < (370000 : Int)) ∧ (0 ≤ h.1 110 132 ∧ h.1 110 132 < (370000 : Int)) ∧ (0 ≤ h.1 110 132 ∧ h.1 110 132 < (370000 : Int)) ∧ (0 ≤ h.1 110 132 ∧ h.1 110 132 < (370000 : Int)) ∧ Q ((am_up (am_up (am_up (am_up (am_up h.1 201 (h.1 110 132).toNat x1) 202 (h.1 110 132).toNat x2) 203 (h.1 110 132).toNat x3) 204 (h.1 110 132).toNat x4) 110 132 (am_w32 ((h.1 110 132) + 1))), h.2)) :
  ak_W0 e 1 d 266 ρ 0 [some (am_r 110), some (am_i x1), some (am_i x2), some (am_i x3), some (am_i x4)] [] h (ak_qv Q X) := ak_k_ok am_cc266 400 [] w
theorem am_cc267 : am_co am_P 267 = am_lk am_rw267 ∧ am_hl am_P 267 = [] ∧ am_rtag (am_re am_P 267) = 0 := ⟨rfl, rfl, rfl⟩
set_option maxRecDepth 100000 in
theorem am_k267_0 {e : ak_X3} {d : Nat} {ρ : List Nat} {h : ak_S} {Q : ak_S → Prop} {X : Nat → ak_S → Prop} (w :
  (h.1 110 104 ≠ 4000 →
    Q ((am_up h.1 110 104 (am_w32 ((h.1 110 104) + 1))), h.2))
  ∧ (h.1 110 104 = 4000 →
    Q ((am_up h.1 110 105 2), h.2))) :
  ak_W0 e 1 d 267 ρ 0 [some (am_r 110)] [] h (ak_qv Q X) := ak_k_ok am_cc267 400 [] w
theorem am_cc268 : am_co am_P 268 = am_lk am_rw268 ∧ am_hl am_P 268 = [] ∧ am_rtag (am_re am_P 268) = 1 := ⟨rfl, rfl, rfl⟩
set_option maxRecDepth 100000 in
theorem am_k268_0 {e : ak_X3} {d : Nat} {ρ : List Nat} {h : ak_S} {Q : Int → ak_S → Prop} {X : Nat → ak_S → Prop} (w :
  ak_W0 e 1 d 268 ρ 7 [some (am_r 110), some (am_i (am_w32 ((h.1 110 132) - 1)))] [] h (ak_qi Q X)) :
  ak_W0 e 1 d 268 ρ 0 [some (am_r 110), none] [] h (ak_qi Q X) := ak_k_ok am_cc268 400 [(7, [true, true])] w
set_option maxRecDepth 100000 in
theorem am_k268_7 {e : ak_X3} {d : Nat} {ρ : List Nat} {h : ak_S} {Q : Int → ak_S → Prop} {X : Nat → ak_S → Prop} {x1 : Int} (w :
  (x1 < 0 →
    Q ((-1)) h)
  ∧ (0 ≤ x1 →
    (0 ≤ x1 ∧ x1 < (370000 : Int)) ∧ (h.1 201 x1.toNat ≠ 10 →
      ak_W0 e 1 d 268 ρ 7 [some (am_r 110), some (am_i (am_w32 (x1 + (-1))))] [] h (ak_qi Q X))
    ∧ (h.1 201 x1.toNat = 10 →
      (0 ≤ x1 ∧ x1 < (370000 : Int)) ∧ Q (h.1 203 x1.toNat) h))) :
  ak_W0 e 1 d 268 ρ 7 [some (am_r 110), some (am_i x1)] [] h (ak_qi Q X) := ak_k_ok am_cc268 400 [(7, [true, true])] w
theorem am_cc269 : am_co am_P 269 = am_lk am_rw269 ∧ am_hl am_P 269 = [] ∧ am_rtag (am_re am_P 269) = 0 := ⟨rfl, rfl, rfl⟩
set_option maxRecDepth 100000 in
theorem am_k269_0 {e : ak_X3} {d : Nat} {ρ : List Nat} {h : ak_S} {Q : ak_S → Prop} {X : Nat → ak_S → Prop} {x1 x2 x3 : Int} (w :
  (64 ≤ h.1 110 109 →
    ak_W0 e 1 d 269 ρ 80 [some (am_r 110), some (am_i x1), some (am_i x2), some (am_l x3), none, some (am_i (h.1 110 109))] [] h (ak_qv Q X))
  ∧ (h.1 110 109 < 64 →
    (0 ≤ h.1 110 109 ∧ h.1 110 109 < (64 : Int)) ∧ (0 ≤ h.1 110 109 ∧ h.1 110 109 < (64 : Int)) ∧ (0 ≤ h.1 110 109 ∧ h.1 110 109 < (64 : Int)) ∧ (0 ≤ h.1 110 102 ∧ h.1 110 102 < (564 : Int)) ∧ (0 ≤ h.1 110 109 ∧ h.1 110 109 < (64 : Int)) ∧ (0 ≤ h.1 110 102 ∧ h.1 110 102 < (564 : Int)) ∧ (0 ≤ h.1 110 109 ∧ h.1 110 109 < (64 : Int)) ∧ ak_MI e 1 d ρ 268 [am_r 110] ((am_up (am_up (am_up (am_up h.1 193 (h.1 110 109).toNat x1) 194 (h.1 110 109).toNat x2) 196 (h.1 110 109).toNat (h.1 179 (h.1 110 102).toNat)) 197 (h.1 110 109).toNat (h.1 183 (h.1 110 102).toNat)), (am_up h.2.1 195 (h.1 110 109).toNat x3), h.2.2) (fun v2 h1 =>
      (0 ≤ h.1 110 109 ∧ h.1 110 109 < (64 : Int)) ∧ ak_W0 e 1 d 269 ρ 80 [some (am_r 110), some (am_i x1), some (am_i x2), some (am_l x3), none, some (am_i (h.1 110 109))] [] ((am_up h1.1 198 (h.1 110 109).toNat v2), h1.2) (ak_qv Q X)) (fun _ _ => False))) :
  ak_W0 e 1 d 269 ρ 0 [some (am_r 110), some (am_i x1), some (am_i x2), some (am_l x3), none, none] [] h (ak_qv Q X) := ak_k_ok am_cc269 400 [(80, [true, true, true, true, false, true])] w
set_option maxRecDepth 100000 in
theorem am_k269_80 {e : ak_X3} {d : Nat} {ρ : List Nat} {h : ak_S} {Q : ak_S → Prop} {X : Nat → ak_S → Prop} {x1 x2 x3 x5 : Int} (w :
  ak_MV e 1 d ρ 276 [am_r 110] ((am_up (am_up (am_up (am_up (am_up h.1 110 109 (am_w32 ((h.1 110 109) + 1))) 110 133 1) 110 137 x1) 110 138 x5) 110 135 x2), (am_up h.2.1 110 136 x3), h.2.2) (fun h1 =>
    Q h1) (fun _ _ => False)) :
  ak_W0 e 1 d 269 ρ 80 [some (am_r 110), some (am_i x1), some (am_i x2), some (am_l x3), none, some (am_i x5)] [] h (ak_qv Q X) := ak_k_ok am_cc269 400 [(80, [true, true, true, true, false, true])] w
theorem am_cc270 : am_co am_P 270 = am_lk am_rw270 ∧ am_hl am_P 270 = [] ∧ am_rtag (am_re am_P 270) = 0 := ⟨rfl, rfl, rfl⟩
set_option maxRecDepth 100000 in
theorem am_k270_0 {e : ak_X3} {d : Nat} {ρ : List Nat} {h : ak_S} {Q : ak_S → Prop} {X : Nat → ak_S → Prop} {x1 : Int} (w :
  ak_MV e 1 d ρ 269 [am_r 110, am_i x1, am_i 0, am_l 0] h (fun h1 =>
    Q h1) (fun _ _ => False)) :
  ak_W0 e 1 d 270 ρ 0 [some (am_r 110), some (am_i x1)] [] h (ak_qv Q X) := ak_k_ok am_cc270 400 [] w
theorem am_cc271 : am_co am_P 271 = am_lk am_rw271 ∧ am_hl am_P 271 = [] ∧ am_rtag (am_re am_P 271) = 1 := ⟨rfl, rfl, rfl⟩
set_option maxRecDepth 100000 in
theorem am_k271_0 {e : ak_X3} {d : Nat} {ρ : List Nat} {h : ak_S} {Q : Int → ak_S → Prop} {X : Nat → ak_S → Prop} (w :
  ak_W0 e 1 d 271 ρ 2 [some (am_r 110), some (am_i 0)] [] h (ak_qi Q X)) :
  ak_W0 e 1 d 271 ρ 0 [some (am_r 110), none] [] h (ak_qi Q X) := ak_k_ok am_cc271 400 [(2, [true, true])] w
set_option maxRecDepth 100000 in
theorem am_k271_2 {e : ak_X3} {d : Nat} {ρ : List Nat} {h : ak_S} {Q : Int → ak_S → Prop} {X : Nat → ak_S → Prop} {x1 : Int} (w :
  (0 ≤ x1 ∧ x1 < (564 : Int)) ∧ (h.1 173 x1.toNat = 0 →
    ((0 ≤ x1 ∧ x1 < (564 : Int)) ∧ ((1 : Int) = 0 ∨ (1 : Int) = 1)) ∧ Q x1 ((am_up h.1 173 x1.toNat 1), h.2))
  ∧ (h.1 173 x1.toNat ≠ 0 →
    ak_W0 e 1 d 271 ρ 2 [some (am_r 110), some (am_i (am_w32 (x1 + 1)))] [] h (ak_qi Q X))) :
  ak_W0 e 1 d 271 ρ 2 [some (am_r 110), some (am_i x1)] [] h (ak_qi Q X) := ak_k_ok am_cc271 400 [(2, [true, true])] w
theorem am_cc272 : am_co am_P 272 = am_lk am_rw272 ∧ am_hl am_P 272 = [] ∧ am_rtag (am_re am_P 272) = 1 := ⟨rfl, rfl, rfl⟩
set_option maxRecDepth 100000 in
theorem am_k272_0 {e : ak_X3} {d : Nat} {ρ : List Nat} {h : ak_S} {Q : Int → ak_S → Prop} {X : Nat → ak_S → Prop} (w :
  (h.1 110 103 ≠ 60 →
    ak_MI e 1 d ρ 271 [am_r 110] ((am_up h.1 110 103 (am_w32 ((h.1 110 103) + 1))), h.2) (fun v2 h1 =>
      ((0 ≤ v2 ∧ v2 < (564 : Int)) ∧ ((1 : Int) = 0 ∨ (1 : Int) = 1)) ∧ ((0 ≤ v2 ∧ v2 < (564 : Int)) ∧ ((0 : Int) = 0 ∨ (0 : Int) = 1)) ∧ ((0 ≤ v2 ∧ v2 < (564 : Int)) ∧ ((0 : Int) = 0 ∨ (0 : Int) = 1)) ∧ ak_W0 e 1 d 272 ρ 54 [some (am_r 110), some (am_i v2), some (am_i 0)] [] ((am_up (am_up (am_up h1.1 175 v2.toNat 1) 174 v2.toNat 0) 176 v2.toNat 0), h1.2) (ak_qi Q X)) (fun _ _ => False))
  ∧ (h.1 110 103 = 60 →
    Q ((-1)) ((am_up h.1 110 105 3), h.2))) :
  ak_W0 e 1 d 272 ρ 0 [some (am_r 110), none, none] [] h (ak_qi Q X) := ak_k_ok am_cc272 400 [(54, [true, true, true])] w
set_option maxRecDepth 100000 in
theorem am_k272_54 {e : ak_X3} {d : Nat} {ρ : List Nat} {h : ak_S} {Q : Int → ak_S → Prop} {X : Nat → ak_S → Prop} {x1 x2 : Int} (w :
  (12 ≤ x2 →
    ak_MV e 1 d ρ 266 [am_r 110, am_i 8, am_i x1, am_i (h.1 110 102), am_i (h.1 110 127)] h (fun h1 =>
      Q x1 h1) (fun _ _ => False))
  ∧ (x2 < 12 →
    (0 ≤ am_w32 ((am_w32 (12 * x1)) + x2) ∧ am_w32 ((am_w32 (12 * x1)) + x2) < (6768 : Int)) ∧ (0 ≤ am_w32 ((am_w32 (12 * x1)) + x2) ∧ am_w32 ((am_w32 (12 * x1)) + x2) < (6768 : Int)) ∧ ak_W0 e 1 d 272 ρ 54 [some (am_r 110), some (am_i x1), some (am_i (am_w32 (x2 + 1)))] [] ((am_up h.1 184 (am_w32 ((am_w32 (12 * x1)) + x2)).toNat 0), (am_up h.2.1 185 (am_w32 ((am_w32 (12 * x1)) + x2)).toNat 0), h.2.2) (ak_qi Q X))) :
  ak_W0 e 1 d 272 ρ 54 [some (am_r 110), some (am_i x1), some (am_i x2)] [] h (ak_qi Q X) := ak_k_ok am_cc272 400 [(54, [true, true, true])] w
theorem am_cc273 : am_co am_P 273 = am_lk am_rw273 ∧ am_hl am_P 273 = [] ∧ am_rtag (am_re am_P 273) = 0 := ⟨rfl, rfl, rfl⟩
set_option maxRecDepth 100000 in
theorem am_k273_0 {e : ak_X3} {d : Nat} {ρ : List Nat} {h : ak_S} {Q : ak_S → Prop} {X : Nat → ak_S → Prop} {x1 : Int} (w :
  ((0 ≤ x1 ∧ x1 < (564 : Int)) ∧ ((0 : Int) = 0 ∨ (0 : Int) = 1)) ∧ (0 ≤ x1 ∧ x1 < (564 : Int)) ∧ ((0 ≤ x1 ∧ x1 < (564 : Int)) ∧ (h.1 174 x1.toNat = 0 ∨ h.1 174 x1.toNat = 1)) ∧ Q ((am_up (am_up (am_up h.1 175 x1.toNat 0) 173 x1.toNat (h.1 174 x1.toNat)) 110 103 (am_w32 ((h.1 110 103) - 1))), h.2)) :
  ak_W0 e 1 d 273 ρ 0 [some (am_r 110), some (am_i x1)] [] h (ak_qv Q X) := ak_k_ok am_cc273 400 [] w
theorem am_cc274 : am_co am_P 274 = am_lk am_rw274 ∧ am_hl am_P 274 = [] ∧ am_rtag (am_re am_P 274) = 0 := ⟨rfl, rfl, rfl⟩
set_option maxRecDepth 100000 in
theorem am_k274_0 {e : ak_X3} {d : Nat} {ρ : List Nat} {h : ak_S} {Q : ak_S → Prop} {X : Nat → ak_S → Prop} {x1 x2 x3 x4 : Int} (w :
  (0 ≤ am_w32 ((am_w32 (12 * x1)) + x2) ∧ am_w32 ((am_w32 (12 * x1)) + x2) < (6768 : Int)) ∧ (0 ≤ am_w32 ((am_w32 (12 * x1)) + x2) ∧ am_w32 ((am_w32 (12 * x1)) + x2) < (6768 : Int)) ∧ Q ((am_up h.1 184 (am_w32 ((am_w32 (12 * x1)) + x2)).toNat x3), (am_up h.2.1 185 (am_w32 ((am_w32 (12 * x1)) + x2)).toNat x4), h.2.2)) :
  ak_W0 e 1 d 274 ρ 0 [some (am_r 110), some (am_i x1), some (am_i x2), some (am_i x3), some (am_l x4), none] [] h (ak_qv Q X) := ak_k_ok am_cc274 400 [] w
theorem am_cc275 : am_co am_P 275 = am_lk am_rw275 ∧ am_hl am_P 275 = [] ∧ am_rtag (am_re am_P 275) = 1 := ⟨rfl, rfl, rfl⟩
set_option maxRecDepth 100000 in
theorem am_k275_0 {e : ak_X3} {d : Nat} {ρ : List Nat} {h : ak_S} {Q : Int → ak_S → Prop} {X : Nat → ak_S → Prop} {x1 x2 x3 x5 x6 : Int} (w :
  ak_MI e 1 d ρ 272 [am_r 110] h (fun v2 h1 =>
    (0 ≤ v2 →
      (0 ≤ v2 ∧ v2 < (564 : Int)) ∧ (0 ≤ v2 ∧ v2 < (564 : Int)) ∧ (0 ≤ v2 ∧ v2 < (564 : Int)) ∧ (0 ≤ v2 ∧ v2 < (564 : Int)) ∧ (0 ≤ v2 ∧ v2 < (564 : Int)) ∧ (x5 ≠ 0 →
        ak_W0 e 1 d 275 ρ 73 [some (am_r 110), some (am_i x1), some (am_i x2), some (am_l x3), none, some (am_i x5), none, some (am_i v2)] [am_i (am_w32 (x6 + 1)), am_i v2, am_r 182] ((am_up (am_up (am_up (am_up h1.1 177 v2.toNat ((-1))) 178 v2.toNat v2) 179 v2.toNat x1) 180 v2.toNat x2), (am_up h1.2.1 181 v2.toNat x3), h1.2.2) (ak_qi Q X))
      ∧ (x5 = 0 →
        ak_W0 e 1 d 275 ρ 73 [some (am_r 110), some (am_i x1), some (am_i x2), some (am_l x3), none, some (am_i x5), none, some (am_i v2)] [am_i ((-1)), am_i v2, am_r 182] ((am_up (am_up (am_up (am_up h1.1 177 v2.toNat ((-1))) 178 v2.toNat v2) 179 v2.toNat x1) 180 v2.toNat x2), (am_up h1.2.1 181 v2.toNat x3), h1.2.2) (ak_qi Q X)))
    ∧ (v2 < 0 →
      Q ((-1)) h1)) (fun _ _ => False)) :
  ak_W0 e 1 d 275 ρ 0 [some (am_r 110), some (am_i x1), some (am_i x2), some (am_l x3), none, some (am_i x5), some (am_i x6), none] [] h (ak_qi Q X) := ak_k_ok am_cc275 400 [(73, [true, true, true, true, false, true, false, true]), (133, [true, true, false, false, false, false, false, true])] w
set_option maxRecDepth 100000 in
theorem am_k275_73 {e : ak_X3} {d : Nat} {ρ : List Nat} {h : ak_S} {Q : Int → ak_S → Prop} {X : Nat → ak_S → Prop} {x1 x2 x3 x5 x7 y0 y1 : Int} (w :
  (0 ≤ y1 ∧ y1 < (564 : Int)) ∧ (0 ≤ x7 ∧ x7 < (564 : Int)) ∧ (300 ≤ h.1 110 111 →
    ak_W0 e 1 d 275 ρ 133 [some (am_r 110), some (am_i x1), none, none, none, none, none, some (am_i x7)] [] ((am_up (am_up h.1 182 y1.toNat y0) 183 x7.toNat 0), h.2) (ak_qi Q X))
  ∧ (h.1 110 111 < 300 →
    (0 ≤ h.1 110 111 ∧ h.1 110 111 < (300 : Int)) ∧ (0 ≤ h.1 110 111 ∧ h.1 110 111 < (300 : Int)) ∧ (0 ≤ h.1 110 111 ∧ h.1 110 111 < (300 : Int)) ∧ (0 ≤ h.1 110 111 ∧ h.1 110 111 < (300 : Int)) ∧ ak_W0 e 1 d 275 ρ 133 [some (am_r 110), some (am_i x1), none, none, none, none, none, some (am_i x7)] [] ((am_up (am_up (am_up (am_up (am_up h.1 182 y1.toNat y0) 183 x7.toNat 0) 189 (h.1 110 111).toNat x1) 190 (h.1 110 111).toNat x2) 192 (h.1 110 111).toNat x5), (am_up h.2.1 191 (h.1 110 111).toNat x3), h.2.2) (ak_qi Q X))) :
  ak_W0 e 1 d 275 ρ 73 [some (am_r 110), some (am_i x1), some (am_i x2), some (am_l x3), none, some (am_i x5), none, some (am_i x7)] [am_i y0, am_i y1, am_r 182] h (ak_qi Q X) := ak_k_ok am_cc275 400 [(73, [true, true, true, true, false, true, false, true]), (133, [true, true, false, false, false, false, false, true])] w
set_option maxRecDepth 100000 in
theorem am_k275_133 {e : ak_X3} {d : Nat} {ρ : List Nat} {h : ak_S} {Q : Int → ak_S → Prop} {X : Nat → ak_S → Prop} {x1 x7 : Int} (w :
  (0 ≤ x1 ∧ x1 < (40 : Int)) ∧ (0 ≤ x1 ∧ x1 < (40 : Int)) ∧ (0 ≤ am_w32 ((am_w32 (40 * (h.1 110 3))) + x1) ∧ am_w32 ((am_w32 (40 * (h.1 110 3))) + x1) < (80 : Int)) ∧ ak_MV e 1 d ρ 266 [am_r 110, am_i 2, am_i (h.1 125 (am_w32 ((am_w32 (40 * (h.1 110 3))) + x1)).toNat), am_i 0, am_i 0] ((am_up (am_up (am_up h.1 110 111 (am_w32 ((h.1 110 111) + 1))) 186 x1.toNat (am_w32 ((h.1 186 x1.toNat) + 1))) 110 102 x7), h.2) (fun h1 =>
    Q x7 h1) (fun _ _ => False)) :
  ak_W0 e 1 d 275 ρ 133 [some (am_r 110), some (am_i x1), none, none, none, none, none, some (am_i x7)] [] h (ak_qi Q X) := ak_k_ok am_cc275 400 [(73, [true, true, true, true, false, true, false, true]), (133, [true, true, false, false, false, false, false, true])] w
theorem am_cc276 : am_co am_P 276 = am_lk am_rw276 ∧ am_hl am_P 276 = [] ∧ am_rtag (am_re am_P 276) = 0 := ⟨rfl, rfl, rfl⟩
set_option maxRecDepth 100000 in
theorem am_k276_0 {e : ak_X3} {d : Nat} {ρ : List Nat} {h : ak_S} {Q : ak_S → Prop} {X : Nat → ak_S → Prop} (w :
  ak_W0 e 1 d 276 ρ 2 [some (am_r 110), some (am_i 1), none] [] h (ak_qv Q X)) :
  ak_W0 e 1 d 276 ρ 0 [some (am_r 110), none, none] [] h (ak_qv Q X) := ak_k_ok am_cc276 400 [(2, [true, true, false]), (225, [true, true, false])] w
set_option maxRecDepth 100000 in
theorem am_k276_2 {e : ak_X3} {d : Nat} {ρ : List Nat} {h : ak_S} {Q : ak_S → Prop} {X : Nat → ak_S → Prop} {x1 : Int} (w :
  (x1 = 0 →
    ak_W0 e 1 d 276 ρ 225 [some (am_r 110), some (am_i x1), none] [] h (ak_qv Q X))
  ∧ (x1 ≠ 0 →
    (h.1 110 132 ≤ 0 →
      ak_W0 e 1 d 276 ρ 225 [some (am_r 110), some (am_i x1), none] [] h (ak_qv Q X))
    ∧ (0 < h.1 110 132 →
      (0 ≤ am_w32 ((h.1 110 132) - 1) ∧ am_w32 ((h.1 110 132) - 1) < (370000 : Int)) ∧ (0 ≤ am_w32 ((h.1 110 132) - 1) ∧ am_w32 ((h.1 110 132) - 1) < (370000 : Int)) ∧ True ∧
        ((h.1 201 (am_w32 ((h.1 110 132) - 1)).toNat < 8 ∨ 11 < h.1 201 (am_w32 ((h.1 110 132) - 1)).toNat) → ak_W0 e 1 d 276 ρ 2 [some (am_r 110), some (am_i x1), none] [] ((am_up h.1 110 132 (am_w32 ((h.1 110 132) - 1))), h.2) (ak_qv Q X)) ∧
        (h.1 201 (am_w32 ((h.1 110 132) - 1)).toNat = 8 → ak_MV e 1 d ρ 273 [am_r 110, am_i (h.1 202 (am_w32 ((h.1 110 132) - 1)).toNat)] ((am_up h.1 110 132 (am_w32 ((h.1 110 132) - 1))), h.2) (fun h1 =>
          (0 ≤ h1.1 110 132 ∧ h1.1 110 132 < (370000 : Int)) ∧ (0 ≤ h1.1 110 132 ∧ h1.1 110 132 < (370000 : Int)) ∧ (h1.1 110 133 ≠ 2 →
            ak_W0 e 1 d 276 ρ 2 [some (am_r 110), some (am_i x1), none] [] ((am_up (am_up h1.1 110 127 (h1.1 204 (h1.1 110 132).toNat)) 110 102 (h1.1 203 (h1.1 110 132).toNat)), h1.2) (ak_qv Q X))
          ∧ (h1.1 110 133 = 2 →
            (h1.1 110 134 ≠ h.1 202 (am_w32 ((h.1 110 132) - 1)).toNat →
              ak_W0 e 1 d 276 ρ 2 [some (am_r 110), some (am_i x1), none] [] ((am_up (am_up h1.1 110 127 (h1.1 204 (h1.1 110 132).toNat)) 110 102 (h1.1 203 (h1.1 110 132).toNat)), h1.2) (ak_qv Q X))
            ∧ (h1.1 110 134 = h.1 202 (am_w32 ((h.1 110 132) - 1)).toNat →
              ak_MV e 1 d ρ 265 [am_r 110, am_i (h1.1 110 135), am_l (h1.2.1 110 136)] ((am_up (am_up h1.1 110 127 (h1.1 204 (h1.1 110 132).toNat)) 110 102 (h1.1 203 (h1.1 110 132).toNat)), h1.2) (fun h2 =>
                ak_W0 e 1 d 276 ρ 2 [some (am_r 110), some (am_i 0), none] [] h2 (ak_qv Q X)) (fun _ _ => False)))) (fun _ _ => False)) ∧
        (h.1 201 (am_w32 ((h.1 110 132) - 1)).toNat = 8 + 1 → (0 ≤ am_w32 ((h.1 110 132) - 1) ∧ am_w32 ((h.1 110 132) - 1) < (370000 : Int)) ∧ ak_MI e 1 d ρ 277 [am_r 110, am_i (h.1 202 (am_w32 ((h.1 110 132) - 1)).toNat)] ((am_up (am_up h.1 110 132 (am_w32 ((h.1 110 132) - 1))) 110 127 (h.1 204 (am_w32 ((h.1 110 132) - 1)).toNat)), h.2) (fun v4 h3 =>
          (v4 ≠ 0 →
            ak_W0 e 1 d 276 ρ 2 [some (am_r 110), some (am_i 0), none] [] h3 (ak_qv Q X))
          ∧ (v4 = 0 →
            ak_W0 e 1 d 276 ρ 2 [some (am_r 110), some (am_i 1), none] [] h3 (ak_qv Q X))) (fun _ _ => False)) ∧
        (h.1 201 (am_w32 ((h.1 110 132) - 1)).toNat = 8 + 1 + 1 → (0 ≤ am_w32 ((h.1 110 132) - 1) ∧ am_w32 ((h.1 110 132) - 1) < (370000 : Int)) ∧ ak_MI e 1 d ρ 278 [am_r 110, am_i (h.1 202 (am_w32 ((h.1 110 132) - 1)).toNat)] ((am_up (am_up h.1 110 132 (am_w32 ((h.1 110 132) - 1))) 110 127 (h.1 204 (am_w32 ((h.1 110 132) - 1)).toNat)), h.2) (fun v6 h5 =>
          (v6 ≠ 0 →
            ak_W0 e 1 d 276 ρ 2 [some (am_r 110), some (am_i 0), none] [] h5 (ak_qv Q X))
          ∧ (v6 = 0 →
            ak_W0 e 1 d 276 ρ 2 [some (am_r 110), some (am_i 1), none] [] h5 (ak_qv Q X))) (fun _ _ => False)) ∧
        (h.1 201 (am_w32 ((h.1 110 132) - 1)).toNat = 8 + 1 + 1 + 1 → (0 ≤ am_w32 ((h.1 110 132) - 1) ∧ am_w32 ((h.1 110 132) - 1) < (370000 : Int)) ∧ ak_W0 e 1 d 276 ρ 2 [some (am_r 110), some (am_i x1), none] [] ((am_up (am_up (am_up h.1 110 132 (am_w32 ((h.1 110 132) - 1))) 110 139 (am_w32 ((h.1 110 139) - 1))) 110 127 (h.1 204 (am_w32 ((h.1 110 132) - 1)).toNat)), h.2) (ak_qv Q X)) ∧ True))) :
  ak_W0 e 1 d 276 ρ 2 [some (am_r 110), some (am_i x1), none] [] h (ak_qv Q X) := ak_k_ok am_cc276 400 [(2, [true, true, false]), (225, [true, true, false])] w
set_option maxRecDepth 100000 in
theorem am_k276_225 {e : ak_X3} {d : Nat} {ρ : List Nat} {h : ak_S} {Q : ak_S → Prop} {X : Nat → ak_S → Prop} {x1 : Int} (w :
  (x1 = 0 →
    Q h)
  ∧ (x1 ≠ 0 →
    (h.1 110 133 ≠ 1 →
      Q ((am_up h.1 110 105 0), h.2))
    ∧ (h.1 110 133 = 1 →
      Q ((am_up h.1 110 105 1), h.2)))) :
  ak_W0 e 1 d 276 ρ 225 [some (am_r 110), some (am_i x1), none] [] h (ak_qv Q X) := ak_k_ok am_cc276 400 [(2, [true, true, false]), (225, [true, true, false])] w
theorem am_cc277 : am_co am_P 277 = am_lk am_rw277 ∧ am_hl am_P 277 = [] ∧ am_rtag (am_re am_P 277) = 2 := ⟨rfl, rfl, rfl⟩
set_option maxRecDepth 100000 in
theorem am_k277_0 {e : ak_X3} {d : Nat} {ρ : List Nat} {h : ak_S} {Q : Int → ak_S → Prop} {X : Nat → ak_S → Prop} {x1 : Int} (w :
  (h.1 110 133 ≠ 1 →
    ak_MI e 1 d ρ 278 [am_r 110, am_i x1] h (fun v2 h1 =>
      (v2 = 0 ∨ v2 = 1) ∧ Q v2 h1) (fun _ _ => False))
  ∧ (h.1 110 133 = 1 →
    (0 ≤ x1 ∧ x1 < (18000 : Int)) ∧ ak_W0 e 1 d 277 ρ 15 [some (am_r 110), some (am_i x1), some (am_i (h.1 116 x1.toNat))] [] h (ak_qi Q X))) :
  ak_W0 e 1 d 277 ρ 0 [some (am_r 110), some (am_i x1), none] [] h (ak_qi Q X) := ak_k_ok am_cc277 400 [(15, [true, true, true]), (44, [true, true, true])] w
set_option maxRecDepth 100000 in
theorem am_k277_15 {e : ak_X3} {d : Nat} {ρ : List Nat} {h : ak_S} {Q : Int → ak_S → Prop} {X : Nat → ak_S → Prop} {x1 x2 : Int} (w :
  (x2 < 0 →
    ak_MI e 1 d ρ 278 [am_r 110, am_i x1] h (fun v2 h1 =>
      (v2 = 0 ∨ v2 = 1) ∧ Q v2 h1) (fun _ _ => False))
  ∧ (0 ≤ x2 →
    (0 ≤ x2 ∧ x2 < (18000 : Int)) ∧ (h.1 116 x2.toNat = 0 →
      ak_W0 e 1 d 277 ρ 44 [some (am_r 110), some (am_i x1), some (am_i x2)] [] h (ak_qi Q X))
    ∧ (h.1 116 x2.toNat ≠ 0 →
      (0 ≤ x2 ∧ x2 < (18000 : Int)) ∧ (h.1 116 x2.toNat = h.1 110 137 →
        ak_W0 e 1 d 277 ρ 44 [some (am_r 110), some (am_i x1), some (am_i x2)] [] h (ak_qi Q X))
      ∧ (h.1 116 x2.toNat ≠ h.1 110 137 →
        (0 ≤ x2 ∧ x2 < (18000 : Int)) ∧ ak_W0 e 1 d 277 ρ 15 [some (am_r 110), some (am_i x1), some (am_i (h.1 119 x2.toNat))] [] h (ak_qi Q X))))) :
  ak_W0 e 1 d 277 ρ 15 [some (am_r 110), some (am_i x1), some (am_i x2)] [] h (ak_qi Q X) := ak_k_ok am_cc277 400 [(15, [true, true, true]), (44, [true, true, true])] w
set_option maxRecDepth 100000 in
theorem am_k277_44 {e : ak_X3} {d : Nat} {ρ : List Nat} {h : ak_S} {Q : Int → ak_S → Prop} {X : Nat → ak_S → Prop} {x1 x2 : Int} (w :
  ak_MV e 1 d ρ 266 [am_r 110, am_i 10, am_i x1, am_i (h.1 110 138), am_i (h.1 110 127)] h (fun h1 =>
    (0 ≤ x2 ∧ x2 < (18000 : Int)) ∧ ak_MV e 1 d ρ 274 [am_r 110, am_i (h1.1 110 102), am_i (h1.1 117 x2.toNat), am_i (h1.1 110 135), am_l (h1.2.1 110 136)] h1 (fun h2 =>
      (0 ≤ x2 ∧ x2 < (18000 : Int)) ∧ ak_MV e 1 d ρ 266 [am_r 110, am_i 2, am_i (h2.1 115 x2.toNat), am_i 0, am_i 0] h2 (fun h3 =>
        ((1 : Int) = 0 ∨ (1 : Int) = 1) ∧ Q 1 h3) (fun _ _ => False)) (fun _ _ => False)) (fun _ _ => False)) :
  ak_W0 e 1 d 277 ρ 44 [some (am_r 110), some (am_i x1), some (am_i x2)] [] h (ak_qi Q X) := ak_k_ok am_cc277 400 [(15, [true, true, true]), (44, [true, true, true])] w
theorem am_cc278 : am_co am_P 278 = am_lk am_rw278 ∧ am_hl am_P 278 = [] ∧ am_rtag (am_re am_P 278) = 2 := ⟨rfl, rfl, rfl⟩
set_option maxRecDepth 100000 in
theorem am_k278_0 {e : ak_X3} {d : Nat} {ρ : List Nat} {h : ak_S} {Q : Int → ak_S → Prop} {X : Nat → ak_S → Prop} {x1 : Int} (w :
  (0 ≤ x1 ∧ x1 < (18000 : Int)) ∧ (h.1 118 x1.toNat = 1 →
    (0 ≤ h.1 110 139 ∧ h.1 110 139 < (2000 : Int)) ∧ (0 ≤ h.1 110 139 ∧ h.1 110 139 < (2000 : Int)) ∧ (0 ≤ h.1 110 139 ∧ h.1 110 139 < (2000 : Int)) ∧ (0 ≤ h.1 110 139 ∧ h.1 110 139 < (2000 : Int)) ∧ (0 ≤ h.1 110 139 ∧ h.1 110 139 < (2000 : Int)) ∧ (0 ≤ h.1 110 139 ∧ h.1 110 139 < (2000 : Int)) ∧ ak_MV e 1 d ρ 266 [am_r 110, am_i 11, am_i x1, am_i 0, am_i (h.1 110 127)] ((am_up (am_up (am_up (am_up (am_up (am_up h.1 205 (h.1 110 139).toNat (h.1 110 133)) 206 (h.1 110 139).toNat (h.1 110 134)) 207 (h.1 110 139).toNat (h.1 110 135)) 209 (h.1 110 139).toNat (h.1 110 137)) 210 (h.1 110 139).toNat (h.1 110 138)) 110 139 (am_w32 ((h.1 110 139) + 1))), (am_up h.2.1 208 (h.1 110 139).toNat (h.2.1 110 136)), h.2.2) (fun h1 =>
      (0 ≤ x1 ∧ x1 < (18000 : Int)) ∧ ak_MV e 1 d ρ 266 [am_r 110, am_i 2, am_i (h1.1 117 x1.toNat), am_i 0, am_i 0] h1 (fun h2 =>
        ((1 : Int) = 0 ∨ (1 : Int) = 1) ∧ Q 1 h2) (fun _ _ => False)) (fun _ _ => False))
  ∧ (h.1 118 x1.toNat ≠ 1 →
    ((0 : Int) = 0 ∨ (0 : Int) = 1) ∧ Q 0 h)) :
  ak_W0 e 1 d 278 ρ 0 [some (am_r 110), some (am_i x1)] [] h (ak_qi Q X) := ak_k_ok am_cc278 400 [] w
theorem am_cc279 : am_co am_P 279 = am_lk am_rw279 ∧ am_hl am_P 279 = [] ∧ am_rtag (am_re am_P 279) = 0 := ⟨rfl, rfl, rfl⟩
set_option maxRecDepth 100000 in
theorem am_k279_0 {e : ak_X3} {d : Nat} {ρ : List Nat} {h : ak_S} {Q : ak_S → Prop} {X : Nat → ak_S → Prop} {x1 x2 x3 : Int} (w :
  ak_MV e 1 d ρ 276 [am_r 110] ((am_up (am_up (am_up h.1 110 133 2) 110 134 x1) 110 135 x2), (am_up h.2.1 110 136 x3), h.2.2) (fun h1 =>
    Q h1) (fun _ _ => False)) :
  ak_W0 e 1 d 279 ρ 0 [some (am_r 110), some (am_i x1), some (am_i x2), some (am_l x3), none] [] h (ak_qv Q X) := ak_k_ok am_cc279 400 [] w
theorem am_cc280 : am_co am_P 280 = am_lk am_rw280 ∧ am_hl am_P 280 = [] ∧ am_rtag (am_re am_P 280) = 1 := ⟨rfl, rfl, rfl⟩
set_option maxRecDepth 100000 in
theorem am_k280_0 {e : ak_X3} {d : Nat} {ρ : List Nat} {h : ak_S} {Q : Int → ak_S → Prop} {X : Nat → ak_S → Prop} {x1 x2 : Int} (w :
  (x1 ≠ 2 →
    (x1 ≠ 1 →
      (x1 ≠ 3 →
        Q 3 h)
      ∧ (x1 = 3 →
        Q 2 h))
    ∧ (x1 = 1 →
      Q 1 h))
  ∧ (x1 = 2 →
    Q (am_w32 x2) h)) :
  ak_W0 e 1 d 280 ρ 0 [some (am_r 110), some (am_i x1), some (am_l x2), none] [] h (ak_qi Q X) := ak_k_ok am_cc280 400 [] w
theorem am_cc281 : am_co am_P 281 = am_lk am_rw281 ∧ am_hl am_P 281 = [] ∧ am_rtag (am_re am_P 281) = 0 := ⟨rfl, rfl, rfl⟩
set_option maxRecDepth 100000 in
theorem am_k281_0 {e : ak_X3} {d : Nat} {ρ : List Nat} {h : ak_S} {Q : ak_S → Prop} {X : Nat → ak_S → Prop} {x1 x2 : Int} (w :
  ak_W0 e 1 d 281 ρ 4 [some (am_r 110), some (am_i x1), none, some (am_i (am_w32 (x2 - 1))), none, none] [] h (ak_qv Q X)) :
  ak_W0 e 1 d 281 ρ 0 [some (am_r 110), some (am_i x1), some (am_i x2), none, none, none] [] h (ak_qv Q X) := ak_k_ok am_cc281 400 [(4, [true, true, false, true, false, false]), (14, [true, true, false, true, true, true])] w
set_option maxRecDepth 100000 in
theorem am_k281_4 {e : ak_X3} {d : Nat} {ρ : List Nat} {h : ak_S} {Q : ak_S → Prop} {X : Nat → ak_S → Prop} {x1 x3 : Int} (w :
  (x3 < 0 →
    Q h)
  ∧ (0 ≤ x3 →
    ak_W0 e 1 d 281 ρ 14 [some (am_r 110), some (am_i x1), none, some (am_i x3), some (am_i x1), some (am_i 0)] [] h (ak_qv Q X))) :
  ak_W0 e 1 d 281 ρ 4 [some (am_r 110), some (am_i x1), none, some (am_i x3), none, none] [] h (ak_qv Q X) := ak_k_ok am_cc281 400 [(4, [true, true, false, true, false, false]), (14, [true, true, false, true, true, true])] w
set_option maxRecDepth 100000 in
theorem am_k281_14 {e : ak_X3} {d : Nat} {ρ : List Nat} {h : ak_S} {Q : ak_S → Prop} {X : Nat → ak_S → Prop} {x1 x3 x4 x5 : Int} (w :
  (x3 ≤ x5 →
    (0 ≤ x4 ∧ x4 < (18000 : Int)) ∧ ak_MV e 1 d ρ 266 [am_r 110, am_i 1, am_i (h.1 115 x4.toNat), am_i 0, am_i 0] h (fun h1 =>
      ak_W0 e 1 d 281 ρ 4 [some (am_r 110), some (am_i x1), none, some (am_i (am_w32 (x3 + (-1)))), none, none] [] h1 (ak_qv Q X)) (fun _ _ => False))
  ∧ (x5 < x3 →
    (0 ≤ x4 ∧ x4 < (18000 : Int)) ∧ ak_W0 e 1 d 281 ρ 14 [some (am_r 110), some (am_i x1), none, some (am_i x3), some (am_i (h.1 119 x4.toNat)), some (am_i (am_w32 (x5 + 1)))] [] h (ak_qv Q X))) :
  ak_W0 e 1 d 281 ρ 14 [some (am_r 110), some (am_i x1), none, some (am_i x3), some (am_i x4), some (am_i x5)] [] h (ak_qv Q X) := ak_k_ok am_cc281 400 [(4, [true, true, false, true, false, false]), (14, [true, true, false, true, true, true])] w
theorem am_cc282 : am_co am_P 282 = am_lk am_rw282 ∧ am_hl am_P 282 = [] ∧ am_rtag (am_re am_P 282) = 0 := ⟨rfl, rfl, rfl⟩
set_option maxRecDepth 100000 in
theorem am_k282_0 {e : ak_X3} {d : Nat} {ρ : List Nat} {h : ak_S} {Q : ak_S → Prop} {X : Nat → ak_S → Prop} {x1 : Int} (w :
  (0 ≤ x1 ∧ x1 < (18000 : Int)) ∧ True ∧
    ((h.1 114 x1.toNat < 1 ∨ 13 < h.1 114 x1.toNat) → ak_W0 e 1 d 282 ρ 409 [some (am_r 110), some (am_i x1), none, none] [] h (ak_qv Q X)) ∧
    (h.1 114 x1.toNat = 1 → (0 ≤ x1 ∧ x1 < (18000 : Int)) ∧ ak_MV e 1 d ρ 265 [am_r 110, am_i 1, am_l (h.1 115 x1.toNat)] h (fun h1 =>
      Q h1) (fun _ _ => False)) ∧
    (h.1 114 x1.toNat = 1 + 1 → ak_MV e 1 d ρ 265 [am_r 110, am_i 0, am_l 0] h (fun h2 =>
      Q h2) (fun _ _ => False)) ∧
    (h.1 114 x1.toNat = 1 + 1 + 1 → (0 ≤ h.1 110 102 ∧ h.1 110 102 < (564 : Int)) ∧ (0 ≤ h.1 178 (h.1 110 102).toNat ∧ h.1 178 (h.1 110 102).toNat < (564 : Int)) ∧ (0 ≤ h.1 110 102 ∧ h.1 110 102 < (564 : Int)) ∧ (0 ≤ h.1 178 (h.1 110 102).toNat ∧ h.1 178 (h.1 110 102).toNat < (564 : Int)) ∧ ak_MV e 1 d ρ 265 [am_r 110, am_i (h.1 180 (h.1 178 (h.1 110 102).toNat).toNat), am_l (h.2.1 181 (h.1 178 (h.1 110 102).toNat).toNat)] h (fun h3 =>
      Q h3) (fun _ _ => False)) ∧
    (h.1 114 x1.toNat = 1 + 1 + 1 + 1 → ak_MV e 1 d ρ 265 [am_r 110, am_i 2, am_l 0] h (fun h4 =>
      Q h4) (fun _ _ => False)) ∧
    (h.1 114 x1.toNat = 1 + 1 + 1 + 1 + 1 → (h.1 110 46 ≠ 200 →
      ak_MI e 1 d ρ 245 [am_r 110] h (fun v6 h5 =>
        ak_MV e 1 d ρ 265 [am_r 110, am_i 2, am_l v6] h5 (fun h7 =>
          Q h7) (fun _ _ => False)) (fun _ _ => False))
    ∧ (h.1 110 46 = 200 →
      ak_MV e 1 d ρ 270 [am_r 110, am_i 8] h (fun h8 =>
        Q h8) (fun _ _ => False))) ∧
    (h.1 114 x1.toNat = 1 + 1 + 1 + 1 + 1 + 1 → ak_W0 e 1 d 282 ρ 321 [some (am_r 110), some (am_i x1), none, none] [] h (ak_qv Q X)) ∧
    (h.1 114 x1.toNat = 1 + 1 + 1 + 1 + 1 + 1 + 1 → ak_W0 e 1 d 282 ρ 179 [some (am_r 110), some (am_i x1), some (am_i (h.1 110 102)), some (am_i 0)] [] h (ak_qv Q X)) ∧
    (h.1 114 x1.toNat = 1 + 1 + 1 + 1 + 1 + 1 + 1 + 1 → ak_MV e 1 d ρ 266 [am_r 110, am_i 3, am_i x1, am_i 0, am_i 0] h (fun h9 =>
      (0 ≤ x1 ∧ x1 < (18000 : Int)) ∧ (0 ≤ x1 ∧ x1 < (18000 : Int)) ∧ ak_MV e 1 d ρ 281 [am_r 110, am_i (h9.1 116 x1.toNat), am_i (h9.1 117 x1.toNat)] h9 (fun h10 =>
        Q h10) (fun _ _ => False)) (fun _ _ => False)) ∧
    (h.1 114 x1.toNat = 1 + 1 + 1 + 1 + 1 + 1 + 1 + 1 + 1 → ak_W0 e 1 d 282 ρ 409 [some (am_r 110), some (am_i x1), none, none] [] h (ak_qv Q X)) ∧
    (h.1 114 x1.toNat = 1 + 1 + 1 + 1 + 1 + 1 + 1 + 1 + 1 + 1 → ak_W0 e 1 d 282 ρ 409 [some (am_r 110), some (am_i x1), none, none] [] h (ak_qv Q X)) ∧
    (h.1 114 x1.toNat = 1 + 1 + 1 + 1 + 1 + 1 + 1 + 1 + 1 + 1 + 1 → ak_MV e 1 d ρ 266 [am_r 110, am_i 3, am_i x1, am_i 0, am_i 0] h (fun h11 =>
      (0 ≤ x1 ∧ x1 < (18000 : Int)) ∧ ak_MV e 1 d ρ 266 [am_r 110, am_i 1, am_i (h11.1 116 x1.toNat), am_i 0, am_i 0] h11 (fun h12 =>
        (0 ≤ x1 ∧ x1 < (18000 : Int)) ∧ ak_MV e 1 d ρ 266 [am_r 110, am_i 1, am_i (h12.1 115 x1.toNat), am_i 0, am_i 0] h12 (fun h13 =>
          Q h13) (fun _ _ => False)) (fun _ _ => False)) (fun _ _ => False)) ∧
    (h.1 114 x1.toNat = 1 + 1 + 1 + 1 + 1 + 1 + 1 + 1 + 1 + 1 + 1 + 1 → ak_W0 e 1 d 282 ρ 321 [some (am_r 110), some (am_i x1), none, none] [] h (ak_qv Q X)) ∧
    (h.1 114 x1.toNat = 1 + 1 + 1 + 1 + 1 + 1 + 1 + 1 + 1 + 1 + 1 + 1 + 1 → (h.1 110 57 ≠ 500 →
      (0 ≤ x1 ∧ x1 < (18000 : Int)) ∧ (0 ≤ h.1 110 57 ∧ h.1 110 57 < (500 : Int)) ∧ (0 ≤ h.1 110 57 ∧ h.1 110 57 < (500 : Int)) ∧ ((0 ≤ h.1 110 102 ∧ h.1 110 102 < (564 : Int)) ∧ ((1 : Int) = 0 ∨ (1 : Int) = 1)) ∧ ak_MV e 1 d ρ 265 [am_r 110, am_i 3, am_l (h.1 110 57)] ((am_up (am_up (am_up h.1 150 (h.1 110 57).toNat (h.1 115 x1.toNat)) 151 (h.1 110 57).toNat (h.1 110 102)) 174 (h.1 110 102).toNat 1), h.2) (fun h14 =>
        Q ((am_up h14.1 110 57 (am_w32 ((h14.1 110 57) + 1))), h14.2)) (fun _ _ => False))
    ∧ (h.1 110 57 = 500 →
      ak_MV e 1 d ρ 270 [am_r 110, am_i 8] h (fun h15 =>
        Q h15) (fun _ _ => False))) ∧ True) :
  ak_W0 e 1 d 282 ρ 0 [some (am_r 110), some (am_i x1), none, none] [] h (ak_qv Q X) := ak_k_ok am_cc282 400 [(179, [true, true, true, true]), (321, [true, true, false, false]), (409, [true, true, false, false])] w
set_option maxRecDepth 100000 in
theorem am_k282_179 {e : ak_X3} {d : Nat} {ρ : List Nat} {h : ak_S} {Q : ak_S → Prop} {X : Nat → ak_S → Prop} {x1 x2 x3 : Int} (w :
  (0 ≤ x1 ∧ x1 < (18000 : Int)) ∧ (h.1 115 x1.toNat ≤ x3 →
    (0 ≤ x1 ∧ x1 < (18000 : Int)) ∧ (0 ≤ am_w32 ((am_w32 (12 * x2)) + (h.1 116 x1.toNat)) ∧ am_w32 ((am_w32 (12 * x2)) + (h.1 116 x1.toNat)) < (6768 : Int)) ∧ (0 ≤ x1 ∧ x1 < (18000 : Int)) ∧ (0 ≤ am_w32 ((am_w32 (12 * x2)) + (h.1 116 x1.toNat)) ∧ am_w32 ((am_w32 (12 * x2)) + (h.1 116 x1.toNat)) < (6768 : Int)) ∧ ak_MV e 1 d ρ 265 [am_r 110, am_i (h.1 184 (am_w32 ((am_w32 (12 * x2)) + (h.1 116 x1.toNat))).toNat), am_l (h.2.1 185 (am_w32 ((am_w32 (12 * x2)) + (h.1 116 x1.toNat))).toNat)] h (fun h1 =>
      Q h1) (fun _ _ => False))
  ∧ (x3 < h.1 115 x1.toNat →
    (0 ≤ x2 ∧ x2 < (564 : Int)) ∧ ak_W0 e 1 d 282 ρ 179 [some (am_r 110), some (am_i x1), some (am_i (h.1 177 x2.toNat)), some (am_i (am_w32 (x3 + 1)))] [] h (ak_qv Q X))) :
  ak_W0 e 1 d 282 ρ 179 [some (am_r 110), some (am_i x1), some (am_i x2), some (am_i x3)] [] h (ak_qv Q X) := ak_k_ok am_cc282 400 [(179, [true, true, true, true]), (321, [true, true, false, false]), (409, [true, true, false, false])] w
set_option maxRecDepth 100000 in
theorem am_k282_321 {e : ak_X3} {d : Nat} {ρ : List Nat} {h : ak_S} {Q : ak_S → Prop} {X : Nat → ak_S → Prop} {x1 : Int} (w :
  ak_MV e 1 d ρ 266 [am_r 110, am_i 3, am_i x1, am_i 0, am_i 0] h (fun h1 =>
    (0 ≤ x1 ∧ x1 < (18000 : Int)) ∧ ak_MV e 1 d ρ 266 [am_r 110, am_i 1, am_i (h1.1 115 x1.toNat), am_i 0, am_i 0] h1 (fun h2 =>
      Q h2) (fun _ _ => False)) (fun _ _ => False)) :
  ak_W0 e 1 d 282 ρ 321 [some (am_r 110), some (am_i x1), none, none] [] h (ak_qv Q X) := ak_k_ok am_cc282 400 [(179, [true, true, true, true]), (321, [true, true, false, false]), (409, [true, true, false, false])] w
set_option maxRecDepth 100000 in
theorem am_k282_409 {e : ak_X3} {d : Nat} {ρ : List Nat} {h : ak_S} {Q : ak_S → Prop} {X : Nat → ak_S → Prop} {x1 : Int} (w :
  ak_MV e 1 d ρ 266 [am_r 110, am_i 3, am_i x1, am_i 0, am_i 0] h (fun h1 =>
    (0 ≤ x1 ∧ x1 < (18000 : Int)) ∧ (0 ≤ x1 ∧ x1 < (18000 : Int)) ∧ ak_MV e 1 d ρ 281 [am_r 110, am_i (h1.1 116 x1.toNat), am_i (h1.1 117 x1.toNat)] h1 (fun h2 =>
      (0 ≤ x1 ∧ x1 < (18000 : Int)) ∧ ak_MV e 1 d ρ 266 [am_r 110, am_i 1, am_i (h2.1 115 x1.toNat), am_i 0, am_i 0] h2 (fun h3 =>
        Q h3) (fun _ _ => False)) (fun _ _ => False)) (fun _ _ => False)) :
  ak_W0 e 1 d 282 ρ 409 [some (am_r 110), some (am_i x1), none, none] [] h (ak_qv Q X) := ak_k_ok am_cc282 400 [(179, [true, true, true, true]), (321, [true, true, false, false]), (409, [true, true, false, false])] w
theorem am_cc283 : am_co am_P 283 = am_lk am_rw283 ∧ am_hl am_P 283 = [] ∧ am_rtag (am_re am_P 283) = 0 := ⟨rfl, rfl, rfl⟩
set_option maxRecDepth 100000 in
theorem am_k283_0 {e : ak_X3} {d : Nat} {ρ : List Nat} {h : ak_S} {Q : ak_S → Prop} {X : Nat → ak_S → Prop} {x1 : Int} (w :
  (0 ≤ x1 ∧ x1 < (18000 : Int)) ∧ True ∧
    ((h.1 114 x1.toNat < 6 ∨ 12 < h.1 114 x1.toNat) → ak_MV e 1 d ρ 288 [am_r 110, am_i x1] h (fun h1 =>
      Q h1) (fun _ _ => False)) ∧
    (h.1 114 x1.toNat = 6 → ak_MV e 1 d ρ 284 [am_r 110] h (fun h2 =>
      Q h2) (fun _ _ => False)) ∧
    (h.1 114 x1.toNat = 6 + 1 → ak_MV e 1 d ρ 288 [am_r 110, am_i x1] h (fun h3 =>
      Q h3) (fun _ _ => False)) ∧
    (h.1 114 x1.toNat = 6 + 1 + 1 → ak_MV e 1 d ρ 288 [am_r 110, am_i x1] h (fun h4 =>
      Q h4) (fun _ _ => False)) ∧
    (h.1 114 x1.toNat = 6 + 1 + 1 + 1 → ak_MV e 1 d ρ 288 [am_r 110, am_i x1] h (fun h5 =>
      Q h5) (fun _ _ => False)) ∧
    (h.1 114 x1.toNat = 6 + 1 + 1 + 1 + 1 → (0 ≤ x1 ∧ x1 < (18000 : Int)) ∧ ak_MV e 1 d ρ 287 [am_r 110, am_i (h.1 117 x1.toNat)] h (fun h6 =>
      Q h6) (fun _ _ => False)) ∧
    (h.1 114 x1.toNat = 6 + 1 + 1 + 1 + 1 + 1 → (0 ≤ x1 ∧ x1 < (18000 : Int)) ∧ ak_MV e 1 d ρ 285 [am_r 110, am_i (h.1 117 x1.toNat)] h (fun h7 =>
      Q h7) (fun _ _ => False)) ∧
    (h.1 114 x1.toNat = 6 + 1 + 1 + 1 + 1 + 1 + 1 → (0 ≤ am_w32 ((h.1 110 127) - 1) ∧ am_w32 ((h.1 110 127) - 1) < (20000 : Int)) ∧ (0 ≤ am_w32 ((h.1 110 127) - 1) ∧ am_w32 ((h.1 110 127) - 1) < (20000 : Int)) ∧ (h.1 199 (am_w32 ((h.1 110 127) - 1)).toNat = 1 →
      (am_lsign (h.2.1 200 (am_w32 ((h.1 110 127) - 1)).toNat) ((-9223372036854775808)) ≠ 0 →
        (0 ≤ am_w32 ((h.1 110 127) - 1) ∧ am_w32 ((h.1 110 127) - 1) < (20000 : Int)) ∧ Q (h.1, (am_up h.2.1 200 (am_w32 ((h.1 110 127) - 1)).toNat (am_w64 (-(h.2.1 200 (am_w32 ((h.1 110 127) - 1)).toNat)))), h.2.2))
      ∧ (am_lsign (h.2.1 200 (am_w32 ((h.1 110 127) - 1)).toNat) ((-9223372036854775808)) = 0 →
        ak_MV e 1 d ρ 270 [am_r 110, am_i 4] h (fun h8 =>
          Q h8) (fun _ _ => False)))
    ∧ (h.1 199 (am_w32 ((h.1 110 127) - 1)).toNat ≠ 1 →
      ak_MV e 1 d ρ 270 [am_r 110, am_i 3] h (fun h9 =>
        Q h9) (fun _ _ => False))) ∧ True) :
  ak_W0 e 1 d 283 ρ 0 [some (am_r 110), some (am_i x1), none, none, none] [] h (ak_qv Q X) := ak_k_ok am_cc283 400 [] w
theorem am_cc284 : am_co am_P 284 = am_lk am_rw284 ∧ am_hl am_P 284 = [] ∧ am_rtag (am_re am_P 284) = 0 := ⟨rfl, rfl, rfl⟩
set_option maxRecDepth 100000 in
theorem am_k284_0 {e : ak_X3} {d : Nat} {ρ : List Nat} {h : ak_S} {Q : ak_S → Prop} {X : Nat → ak_S → Prop} (w :
  (0 ≤ am_w32 ((h.1 110 127) - 1) ∧ am_w32 ((h.1 110 127) - 1) < (20000 : Int)) ∧ (0 ≤ am_w32 ((h.1 110 127) - 1) ∧ am_w32 ((h.1 110 127) - 1) < (20000 : Int)) ∧ (h.1 199 (am_w32 ((h.1 110 127) - 1)).toNat = 2 →
    (h.1 110 46 ≠ 200 →
      ak_MI e 1 d ρ 245 [am_r 110] h (fun v2 h1 =>
        (0 ≤ am_w32 (h.2.1 200 (am_w32 ((h.1 110 127) - 1)).toNat) ∧ am_w32 (h.2.1 200 (am_w32 ((h.1 110 127) - 1)).toNat) < (200 : Int)) ∧ (0 ≤ v2 ∧ v2 < (200 : Int)) ∧ (0 ≤ am_w32 (h.2.1 200 (am_w32 ((h.1 110 127) - 1)).toNat) ∧ am_w32 (h.2.1 200 (am_w32 ((h.1 110 127) - 1)).toNat) < (200 : Int)) ∧ (0 ≤ v2 ∧ v2 < (200 : Int)) ∧ ak_W0 e 1 d 284 ρ 86 [some (am_r 110), none, some (am_i (am_w32 (h.2.1 200 (am_w32 ((h.1 110 127) - 1)).toNat))), some (am_i v2), some (am_i 0)] [] ((am_up (am_up h1.1 141 v2.toNat (h1.1 141 (am_w32 (h.2.1 200 (am_w32 ((h.1 110 127) - 1)).toNat)).toNat)) 142 v2.toNat (h1.1 142 (am_w32 (h.2.1 200 (am_w32 ((h.1 110 127) - 1)).toNat)).toNat)), h1.2) (ak_qv Q X)) (fun _ _ => False))
    ∧ (h.1 110 46 = 200 →
      ak_MV e 1 d ρ 270 [am_r 110, am_i 8] h (fun h3 =>
        Q h3) (fun _ _ => False)))
  ∧ (h.1 199 (am_w32 ((h.1 110 127) - 1)).toNat ≠ 2 →
    ak_MV e 1 d ρ 270 [am_r 110, am_i 6] h (fun h4 =>
      Q h4) (fun _ _ => False))) :
  ak_W0 e 1 d 284 ρ 0 [some (am_r 110), none, none, none, none] [] h (ak_qv Q X) := ak_k_ok am_cc284 400 [(86, [true, false, true, true, true])] w
set_option maxRecDepth 100000 in
theorem am_k284_86 {e : ak_X3} {d : Nat} {ρ : List Nat} {h : ak_S} {Q : ak_S → Prop} {X : Nat → ak_S → Prop} {x2 x3 x4 : Int} (w :
  (0 ≤ x3 ∧ x3 < (200 : Int)) ∧ (h.1 141 x3.toNat ≤ x4 →
    (0 ≤ am_w32 ((h.1 110 127) - 1) ∧ am_w32 ((h.1 110 127) - 1) < (20000 : Int)) ∧ Q (h.1, (am_up h.2.1 200 (am_w32 ((h.1 110 127) - 1)).toNat x3), h.2.2))
  ∧ (x4 < h.1 141 x3.toNat →
    (0 ≤ am_w32 ((am_w32 (12 * x2)) + x4) ∧ am_w32 ((am_w32 (12 * x2)) + x4) < (2400 : Int)) ∧ (0 ≤ am_w32 ((am_w32 (12 * x3)) + x4) ∧ am_w32 ((am_w32 (12 * x3)) + x4) < (2400 : Int)) ∧ (0 ≤ am_w32 ((am_w32 (12 * x2)) + x4) ∧ am_w32 ((am_w32 (12 * x2)) + x4) < (2400 : Int)) ∧ (0 ≤ am_w32 ((am_w32 (12 * x3)) + x4) ∧ am_w32 ((am_w32 (12 * x3)) + x4) < (2400 : Int)) ∧ (0 ≤ am_w32 ((am_w32 (12 * x2)) + x4) ∧ am_w32 ((am_w32 (12 * x2)) + x4) < (2400 : Int)) ∧ (0 ≤ am_w32 ((am_w32 (12 * x3)) + x4) ∧ am_w32 ((am_w32 (12 * x3)) + x4) < (2400 : Int)) ∧ (0 ≤ am_w32 ((am_w32 (12 * x2)) + x4) ∧ am_w32 ((am_w32 (12 * x2)) + x4) < (2400 : Int)) ∧ (0 ≤ am_w32 ((am_w32 (12 * x3)) + x4) ∧ am_w32 ((am_w32 (12 * x3)) + x4) < (2400 : Int)) ∧ ak_W0 e 1 d 284 ρ 86 [some (am_r 110), none, some (am_i x2), some (am_i x3), some (am_i (am_w32 (x4 + 1)))] [] ((am_up (am_up (am_up h.1 143 (am_w32 ((am_w32 (12 * x3)) + x4)).toNat (h.1 143 (am_w32 ((am_w32 (12 * x2)) + x4)).toNat)) 144 (am_w32 ((am_w32 (12 * x3)) + x4)).toNat (h.1 144 (am_w32 ((am_w32 (12 * x2)) + x4)).toNat)) 145 (am_w32 ((am_w32 (12 * x3)) + x4)).toNat (h.1 145 (am_w32 ((am_w32 (12 * x2)) + x4)).toNat)), (am_up h.2.1 146 (am_w32 ((am_w32 (12 * x3)) + x4)).toNat (h.2.1 146 (am_w32 ((am_w32 (12 * x2)) + x4)).toNat)), h.2.2) (ak_qv Q X))) :
  ak_W0 e 1 d 284 ρ 86 [some (am_r 110), none, some (am_i x2), some (am_i x3), some (am_i x4)] [] h (ak_qv Q X) := ak_k_ok am_cc284 400 [(86, [true, false, true, true, true])] w
theorem am_cc285 : am_co am_P 285 = am_lk am_rw285 ∧ am_hl am_P 285 = [] ∧ am_rtag (am_re am_P 285) = 0 := ⟨rfl, rfl, rfl⟩
set_option maxRecDepth 100000 in
theorem am_k285_0 {e : ak_X3} {d : Nat} {ρ : List Nat} {h : ak_S} {Q : ak_S → Prop} {X : Nat → ak_S → Prop} {x1 : Int} (w :
  (0 ≤ am_w32 ((h.1 110 127) - 2) ∧ am_w32 ((h.1 110 127) - 2) < (20000 : Int)) ∧ (0 ≤ am_w32 ((h.1 110 127) - 1) ∧ am_w32 ((h.1 110 127) - 1) < (20000 : Int)) ∧ (0 ≤ am_w32 ((h.1 110 127) - 2) ∧ am_w32 ((h.1 110 127) - 2) < (20000 : Int)) ∧ (0 ≤ am_w32 ((h.1 110 127) - 1) ∧ am_w32 ((h.1 110 127) - 1) < (20000 : Int)) ∧ (x1 ≠ 4 →
    (h.1 199 (am_w32 ((h.1 110 127) - 2)).toNat ≠ 1 →
      ak_W0 e 1 d 285 ρ 88 [some (am_r 110), none, none, none, none, none, none, none, none, none, none] [] h (ak_qv Q X))
    ∧ (h.1 199 (am_w32 ((h.1 110 127) - 2)).toNat = 1 →
      (h.1 199 (am_w32 ((h.1 110 127) - 1)).toNat = 1 →
        (x1 = 47 →
          ak_W0 e 1 d 285 ρ 106 [some (am_r 110), some (am_i x1), none, none, some (am_l (h.2.1 200 (am_w32 ((h.1 110 127) - 2)).toNat)), none, some (am_l (h.2.1 200 (am_w32 ((h.1 110 127) - 1)).toNat)), none, none, none, none] [] h (ak_qv Q X))
        ∧ (x1 ≠ 47 →
          (x1 ≠ 37 →
            ak_W0 e 1 d 285 ρ 119 [some (am_r 110), some (am_i x1), none, none, some (am_l (h.2.1 200 (am_w32 ((h.1 110 127) - 2)).toNat)), none, some (am_l (h.2.1 200 (am_w32 ((h.1 110 127) - 1)).toNat)), none, none, none, none] [] h (ak_qv Q X))
          ∧ (x1 = 37 →
            ak_W0 e 1 d 285 ρ 106 [some (am_r 110), some (am_i x1), none, none, some (am_l (h.2.1 200 (am_w32 ((h.1 110 127) - 2)).toNat)), none, some (am_l (h.2.1 200 (am_w32 ((h.1 110 127) - 1)).toNat)), none, none, none, none] [] h (ak_qv Q X))))
      ∧ (h.1 199 (am_w32 ((h.1 110 127) - 1)).toNat ≠ 1 →
        ak_W0 e 1 d 285 ρ 88 [some (am_r 110), none, none, none, none, none, none, none, none, none, none] [] h (ak_qv Q X))))
  ∧ (x1 = 4 →
    (h.1 199 (am_w32 ((h.1 110 127) - 2)).toNat ≠ h.1 199 (am_w32 ((h.1 110 127) - 1)).toNat →
      ak_MV e 1 d ρ 286 [am_r 110, am_l 0] h (fun h1 =>
        Q h1) (fun _ _ => False))
    ∧ (h.1 199 (am_w32 ((h.1 110 127) - 2)).toNat = h.1 199 (am_w32 ((h.1 110 127) - 1)).toNat →
      (am_lsign (h.2.1 200 (am_w32 ((h.1 110 127) - 2)).toNat) (h.2.1 200 (am_w32 ((h.1 110 127) - 1)).toNat) ≠ 0 →
        ak_MV e 1 d ρ 286 [am_r 110, am_l 0] h (fun h2 =>
          Q h2) (fun _ _ => False))
      ∧ (am_lsign (h.2.1 200 (am_w32 ((h.1 110 127) - 2)).toNat) (h.2.1 200 (am_w32 ((h.1 110 127) - 1)).toNat) = 0 →
        ak_MV e 1 d ρ 286 [am_r 110, am_l 1] h (fun h3 =>
          Q h3) (fun _ _ => False))))) :
  ak_W0 e 1 d 285 ρ 0 [some (am_r 110), some (am_i x1), none, none, none, none, none, none, none, none, none] [] h (ak_qv Q X) := ak_k_ok am_cc285 400 [(88, [true, false, false, false, false, false, false, false, false, false, false]), (106, [true, true, false, false, true, false, true, false, false, false, false]), (119, [true, true, false, false, true, false, true, false, false, false, false]), (239, [true, false, false, false, true, false, true, false, true, false, false]), (251, [true, false, false, false, true, false, false, false, true, false, false]), (266, [true, false, false, false, true, false, false, false, true, false, false]), (278, [true, false, false, false, false, false, false, false, true, false, false]), (281, [true, false, false, false, false, false, false, false, true, false, false]), (310, [true, false, false, false, true, false, true, false, true, false, false]), (322, [true, false, false, false, true, false, false, false, true, false, false]), (337, [true, false, false, false, true, false, false, false, true, false, false]), (349, [true, false, false, false, false, false, false, false, true, false, false]), (352, [true, false, false, false, false, false, false, false, true, false, false]), (394, [true, false, false, false, true, false, true, false, true, false, false]), (412, [true, false, false, false, true, false, true, false, true, false, false]), (423, [true, false, false, false, false, false, false, false, true, false, false]), (456, [true, false, false, false, true, false, true, false, false, false, false]), (497, [true, false, false, false, false, false, false, false, true, false, true])] w
set_option maxRecDepth 100000 in
theorem am_k285_88 {e : ak_X3} {d : Nat} {ρ : List Nat} {h : ak_S} {Q : ak_S → Prop} {X : Nat → ak_S → Prop} (w :
  ak_MV e 1 d ρ 270 [am_r 110, am_i 3] h (fun h1 =>
    Q h1) (fun _ _ => False)) :
  ak_W0 e 1 d 285 ρ 88 [some (am_r 110), none, none, none, none, none, none, none, none, none, none] [] h (ak_qv Q X) := ak_k_ok am_cc285 400 [(88, [true, false, false, false, false, false, false, false, false, false, false]), (106, [true, true, false, false, true, false, true, false, false, false, false]), (119, [true, true, false, false, true, false, true, false, false, false, false]), (239, [true, false, false, false, true, false, true, false, true, false, false]), (251, [true, false, false, false, true, false, false, false, true, false, false]), (266, [true, false, false, false, true, false, false, false, true, false, false]), (278, [true, false, false, false, false, false, false, false, true, false, false]), (281, [true, false, false, false, false, false, false, false, true, false, false]), (310, [true, false, false, false, true, false, true, false, true, false, false]), (322, [true, false, false, false, true, false, false, false, true, false, false]), (337, [true, false, false, false, true, false, false, false, true, false, false]), (349, [true, false, false, false, false, false, false, false, true, false, false]), (352, [true, false, false, false, false, false, false, false, true, false, false]), (394, [true, false, false, false, true, false, true, false, true, false, false]), (412, [true, false, false, false, true, false, true, false, true, false, false]), (423, [true, false, false, false, false, false, false, false, true, false, false]), (456, [true, false, false, false, true, false, true, false, false, false, false]), (497, [true, false, false, false, false, false, false, false, true, false, true])] w
set_option maxRecDepth 100000 in
theorem am_k285_106 {e : ak_X3} {d : Nat} {ρ : List Nat} {h : ak_S} {Q : ak_S → Prop} {X : Nat → ak_S → Prop} {x1 x4 x6 : Int} (w :
  (am_lsign x6 0 ≠ 0 →
    ak_W0 e 1 d 285 ρ 119 [some (am_r 110), some (am_i x1), none, none, some (am_l x4), none, some (am_l x6), none, none, none, none] [] h (ak_qv Q X))
  ∧ (am_lsign x6 0 = 0 →
    ak_MV e 1 d ρ 270 [am_r 110, am_i 5] h (fun h1 =>
      Q h1) (fun _ _ => False))) :
  ak_W0 e 1 d 285 ρ 106 [some (am_r 110), some (am_i x1), none, none, some (am_l x4), none, some (am_l x6), none, none, none, none] [] h (ak_qv Q X) := ak_k_ok am_cc285 400 [(88, [true, false, false, false, false, false, false, false, false, false, false]), (106, [true, true, false, false, true, false, true, false, false, false, false]), (119, [true, true, false, false, true, false, true, false, false, false, false]), (239, [true, false, false, false, true, false, true, false, true, false, false]), (251, [true, false, false, false, true, false, false, false, true, false, false]), (266, [true, false, false, false, true, false, false, false, true, false, false]), (278, [true, false, false, false, false, false, false, false, true, false, false]), (281, [true, false, false, false, false, false, false, false, true, false, false]), (310, [true, false, false, false, true, false, true, false, true, false, false]), (322, [true, false, false, false, true, false, false, false, true, false, false]), (337, [true, false, false, false, true, false, false, false, true, false, false]), (349, [true, false, false, false, false, false, false, false, true, false, false]), (352, [true, false, false, false, false, false, false, false, true, false, false]), (394, [true, false, false, false, true, false, true, false, true, false, false]), (412, [true, false, false, false, true, false, true, false, true, false, false]), (423, [true, false, false, false, false, false, false, false, true, false, false]), (456, [true, false, false, false, true, false, true, false, false, false, false]), (497, [true, false, false, false, false, false, false, false, true, false, true])] w
set_option maxRecDepth 100000 in
theorem am_k285_119 {e : ak_X3} {d : Nat} {ρ : List Nat} {h : ak_S} {Q : ak_S → Prop} {X : Nat → ak_S → Prop} {x1 x4 x6 : Int} (w :
  True ∧
    ((x1 ≠ 42 ∧ x1 ≠ 43 ∧ x1 ≠ 45 ∧ x1 ≠ 47 ∧ x1 ≠ 60 ∧ x1 ≠ 62 ∧ True) → (am_lsign x6 ((-1)) ≠ 0 →
      (x6 ≠ 0) ∧ ak_W0 e 1 d 285 ρ 497 [some (am_r 110), none, none, none, none, none, none, none, some (am_l (Int.tmod x4 x6)), none, some (am_i 1)] [] h (ak_qv Q X))
    ∧ (am_lsign x6 ((-1)) = 0 →
      ak_W0 e 1 d 285 ρ 497 [some (am_r 110), none, none, none, none, none, none, none, some (am_l 0), none, some (am_i 1)] [] h (ak_qv Q X))) ∧
    (x1 = 42 → (am_lsign x4 0 = 0 →
      ak_W0 e 1 d 285 ρ 423 [some (am_r 110), none, none, none, none, none, none, none, some (am_l (am_w64 (x4 * x6))), none, none] [] h (ak_qv Q X))
    ∧ (am_lsign x4 0 ≠ 0 →
      (am_lsign x4 ((-1)) ≠ 0 →
        ak_W0 e 1 d 285 ρ 394 [some (am_r 110), none, none, none, some (am_l x4), none, some (am_l x6), none, some (am_l (am_w64 (x4 * x6))), none, none] [] h (ak_qv Q X))
      ∧ (am_lsign x4 ((-1)) = 0 →
        (am_lsign x6 ((-9223372036854775808)) = 0 →
          ak_W0 e 1 d 285 ρ 497 [some (am_r 110), none, none, none, none, none, none, none, some (am_l (am_w64 (x4 * x6))), none, some (am_i 0)] [] h (ak_qv Q X))
        ∧ (am_lsign x6 ((-9223372036854775808)) ≠ 0 →
          ak_W0 e 1 d 285 ρ 394 [some (am_r 110), none, none, none, some (am_l x4), none, some (am_l x6), none, some (am_l (am_w64 (x4 * x6))), none, none] [] h (ak_qv Q X))))) ∧
    (x1 = 43 → (0 ≤ am_lsign x4 0 →
      ak_W0 e 1 d 285 ρ 239 [some (am_r 110), none, none, none, some (am_l x4), none, some (am_l x6), none, some (am_l (am_w64 (x4 + x6))), none, none] [am_i 0] h (ak_qv Q X))
    ∧ (am_lsign x4 0 < 0 →
      ak_W0 e 1 d 285 ρ 239 [some (am_r 110), none, none, none, some (am_l x4), none, some (am_l x6), none, some (am_l (am_w64 (x4 + x6))), none, none] [am_i 1] h (ak_qv Q X))) ∧
    (x1 = 45 → (0 ≤ am_lsign x4 0 →
      ak_W0 e 1 d 285 ρ 310 [some (am_r 110), none, none, none, some (am_l x4), none, some (am_l x6), none, some (am_l (am_w64 (x4 - x6))), none, none] [am_i 0] h (ak_qv Q X))
    ∧ (am_lsign x4 0 < 0 →
      ak_W0 e 1 d 285 ρ 310 [some (am_r 110), none, none, none, some (am_l x4), none, some (am_l x6), none, some (am_l (am_w64 (x4 - x6))), none, none] [am_i 1] h (ak_qv Q X))) ∧
    (x1 = 47 → (am_lsign x4 ((-9223372036854775808)) ≠ 0 →
      ak_W0 e 1 d 285 ρ 456 [some (am_r 110), none, none, none, some (am_l x4), none, some (am_l x6), none, none, none, none] [am_i 1] h (ak_qv Q X))
    ∧ (am_lsign x4 ((-9223372036854775808)) = 0 →
      (am_lsign x6 ((-1)) = 0 →
        ak_W0 e 1 d 285 ρ 456 [some (am_r 110), none, none, none, some (am_l x4), none, some (am_l x6), none, none, none, none] [am_i 0] h (ak_qv Q X))
      ∧ (am_lsign x6 ((-1)) ≠ 0 →
        ak_W0 e 1 d 285 ρ 456 [some (am_r 110), none, none, none, some (am_l x4), none, some (am_l x6), none, none, none, none] [am_i 1] h (ak_qv Q X)))) ∧
    (x1 = 60 → (0 ≤ am_lsign x4 x6 →
      ak_W0 e 1 d 285 ρ 497 [some (am_r 110), none, none, none, none, none, none, none, some (am_l 0), none, some (am_i 1)] [] h (ak_qv Q X))
    ∧ (am_lsign x4 x6 < 0 →
      ak_W0 e 1 d 285 ρ 497 [some (am_r 110), none, none, none, none, none, none, none, some (am_l 1), none, some (am_i 1)] [] h (ak_qv Q X))) ∧
    (x1 = 62 → (am_lsign x4 x6 ≤ 0 →
      ak_W0 e 1 d 285 ρ 497 [some (am_r 110), none, none, none, none, none, none, none, some (am_l 0), none, some (am_i 1)] [] h (ak_qv Q X))
    ∧ (0 < am_lsign x4 x6 →
      ak_W0 e 1 d 285 ρ 497 [some (am_r 110), none, none, none, none, none, none, none, some (am_l 1), none, some (am_i 1)] [] h (ak_qv Q X))) ∧ True) :
  ak_W0 e 1 d 285 ρ 119 [some (am_r 110), some (am_i x1), none, none, some (am_l x4), none, some (am_l x6), none, none, none, none] [] h (ak_qv Q X) := ak_k_ok am_cc285 400 [(88, [true, false, false, false, false, false, false, false, false, false, false]), (106, [true, true, false, false, true, false, true, false, false, false, false]), (119, [true, true, false, false, true, false, true, false, false, false, false]), (239, [true, false, false, false, true, false, true, false, true, false, false]), (251, [true, false, false, false, true, false, false, false, true, false, false]), (266, [true, false, false, false, true, false, false, false, true, false, false]), (278, [true, false, false, false, false, false, false, false, true, false, false]), (281, [true, false, false, false, false, false, false, false, true, false, false]), (310, [true, false, false, false, true, false, true, false, true, false, false]), (322, [true, false, false, false, true, false, false, false, true, false, false]), (337, [true, false, false, false, true, false, false, false, true, false, false]), (349, [true, false, false, false, false, false, false, false, true, false, false]), (352, [true, false, false, false, false, false, false, false, true, false, false]), (394, [true, false, false, false, true, false, true, false, true, false, false]), (412, [true, false, false, false, true, false, true, false, true, false, false]), (423, [true, false, false, false, false, false, false, false, true, false, false]), (456, [true, false, false, false, true, false, true, false, false, false, false]), (497, [true, false, false, false, false, false, false, false, true, false, true])] w
set_option maxRecDepth 100000 in
theorem am_k285_239 {e : ak_X3} {d : Nat} {ρ : List Nat} {h : ak_S} {Q : ak_S → Prop} {X : Nat → ak_S → Prop} {x4 x6 x8 y0 : Int} (w :
  (0 ≤ am_lsign x6 0 →
    ak_W0 e 1 d 285 ρ 251 [some (am_r 110), none, none, none, some (am_l x4), none, none, none, some (am_l x8), none, none] [am_i 0, am_i y0] h (ak_qv Q X))
  ∧ (am_lsign x6 0 < 0 →
    ak_W0 e 1 d 285 ρ 251 [some (am_r 110), none, none, none, some (am_l x4), none, none, none, some (am_l x8), none, none] [am_i 1, am_i y0] h (ak_qv Q X))) :
  ak_W0 e 1 d 285 ρ 239 [some (am_r 110), none, none, none, some (am_l x4), none, some (am_l x6), none, some (am_l x8), none, none] [am_i y0] h (ak_qv Q X) := ak_k_ok am_cc285 400 [(88, [true, false, false, false, false, false, false, false, false, false, false]), (106, [true, true, false, false, true, false, true, false, false, false, false]), (119, [true, true, false, false, true, false, true, false, false, false, false]), (239, [true, false, false, false, true, false, true, false, true, false, false]), (251, [true, false, false, false, true, false, false, false, true, false, false]), (266, [true, false, false, false, true, false, false, false, true, false, false]), (278, [true, false, false, false, false, false, false, false, true, false, false]), (281, [true, false, false, false, false, false, false, false, true, false, false]), (310, [true, false, false, false, true, false, true, false, true, false, false]), (322, [true, false, false, false, true, false, false, false, true, false, false]), (337, [true, false, false, false, true, false, false, false, true, false, false]), (349, [true, false, false, false, false, false, false, false, true, false, false]), (352, [true, false, false, false, false, false, false, false, true, false, false]), (394, [true, false, false, false, true, false, true, false, true, false, false]), (412, [true, false, false, false, true, false, true, false, true, false, false]), (423, [true, false, false, false, false, false, false, false, true, false, false]), (456, [true, false, false, false, true, false, true, false, false, false, false]), (497, [true, false, false, false, false, false, false, false, true, false, true])] w
set_option maxRecDepth 100000 in
theorem am_k285_251 {e : ak_X3} {d : Nat} {ρ : List Nat} {h : ak_S} {Q : ak_S → Prop} {X : Nat → ak_S → Prop} {x4 x8 y0 y1 : Int} (w :
  (y1 ≠ y0 →
    ak_W0 e 1 d 285 ρ 281 [some (am_r 110), none, none, none, none, none, none, none, some (am_l x8), none, none] [] h (ak_qv Q X))
  ∧ (y1 = y0 →
    (0 ≤ am_lsign x8 0 →
      ak_W0 e 1 d 285 ρ 266 [some (am_r 110), none, none, none, some (am_l x4), none, none, none, some (am_l x8), none, none] [am_i 0] h (ak_qv Q X))
    ∧ (am_lsign x8 0 < 0 →
      ak_W0 e 1 d 285 ρ 266 [some (am_r 110), none, none, none, some (am_l x4), none, none, none, some (am_l x8), none, none] [am_i 1] h (ak_qv Q X)))) :
  ak_W0 e 1 d 285 ρ 251 [some (am_r 110), none, none, none, some (am_l x4), none, none, none, some (am_l x8), none, none] [am_i y0, am_i y1] h (ak_qv Q X) := ak_k_ok am_cc285 400 [(88, [true, false, false, false, false, false, false, false, false, false, false]), (106, [true, true, false, false, true, false, true, false, false, false, false]), (119, [true, true, false, false, true, false, true, false, false, false, false]), (239, [true, false, false, false, true, false, true, false, true, false, false]), (251, [true, false, false, false, true, false, false, false, true, false, false]), (266, [true, false, false, false, true, false, false, false, true, false, false]), (278, [true, false, false, false, false, false, false, false, true, false, false]), (281, [true, false, false, false, false, false, false, false, true, false, false]), (310, [true, false, false, false, true, false, true, false, true, false, false]), (322, [true, false, false, false, true, false, false, false, true, false, false]), (337, [true, false, false, false, true, false, false, false, true, false, false]), (349, [true, false, false, false, false, false, false, false, true, false, false]), (352, [true, false, false, false, false, false, false, false, true, false, false]), (394, [true, false, false, false, true, false, true, false, true, false, false]), (412, [true, false, false, false, true, false, true, false, true, false, false]), (423, [true, false, false, false, false, false, false, false, true, false, false]), (456, [true, false, false, false, true, false, true, false, false, false, false]), (497, [true, false, false, false, false, false, false, false, true, false, true])] w
set_option maxRecDepth 100000 in
theorem am_k285_266 {e : ak_X3} {d : Nat} {ρ : List Nat} {h : ak_S} {Q : ak_S → Prop} {X : Nat → ak_S → Prop} {x4 x8 y0 : Int} (w :
  (0 ≤ am_lsign x4 0 →
    ak_W0 e 1 d 285 ρ 278 [some (am_r 110), none, none, none, none, none, none, none, some (am_l x8), none, none] [am_i 0, am_i y0] h (ak_qv Q X))
  ∧ (am_lsign x4 0 < 0 →
    ak_W0 e 1 d 285 ρ 278 [some (am_r 110), none, none, none, none, none, none, none, some (am_l x8), none, none] [am_i 1, am_i y0] h (ak_qv Q X))) :
  ak_W0 e 1 d 285 ρ 266 [some (am_r 110), none, none, none, some (am_l x4), none, none, none, some (am_l x8), none, none] [am_i y0] h (ak_qv Q X) := ak_k_ok am_cc285 400 [(88, [true, false, false, false, false, false, false, false, false, false, false]), (106, [true, true, false, false, true, false, true, false, false, false, false]), (119, [true, true, false, false, true, false, true, false, false, false, false]), (239, [true, false, false, false, true, false, true, false, true, false, false]), (251, [true, false, false, false, true, false, false, false, true, false, false]), (266, [true, false, false, false, true, false, false, false, true, false, false]), (278, [true, false, false, false, false, false, false, false, true, false, false]), (281, [true, false, false, false, false, false, false, false, true, false, false]), (310, [true, false, false, false, true, false, true, false, true, false, false]), (322, [true, false, false, false, true, false, false, false, true, false, false]), (337, [true, false, false, false, true, false, false, false, true, false, false]), (349, [true, false, false, false, false, false, false, false, true, false, false]), (352, [true, false, false, false, false, false, false, false, true, false, false]), (394, [true, false, false, false, true, false, true, false, true, false, false]), (412, [true, false, false, false, true, false, true, false, true, false, false]), (423, [true, false, false, false, false, false, false, false, true, false, false]), (456, [true, false, false, false, true, false, true, false, false, false, false]), (497, [true, false, false, false, false, false, false, false, true, false, true])] w
set_option maxRecDepth 100000 in
theorem am_k285_278 {e : ak_X3} {d : Nat} {ρ : List Nat} {h : ak_S} {Q : ak_S → Prop} {X : Nat → ak_S → Prop} {x8 y0 y1 : Int} (w :
  (y1 ≠ y0 →
    ak_W0 e 1 d 285 ρ 497 [some (am_r 110), none, none, none, none, none, none, none, some (am_l x8), none, some (am_i 0)] [] h (ak_qv Q X))
  ∧ (y1 = y0 →
    ak_W0 e 1 d 285 ρ 281 [some (am_r 110), none, none, none, none, none, none, none, some (am_l x8), none, none] [] h (ak_qv Q X))) :
  ak_W0 e 1 d 285 ρ 278 [some (am_r 110), none, none, none, none, none, none, none, some (am_l x8), none, none] [am_i y0, am_i y1] h (ak_qv Q X) := ak_k_ok am_cc285 400 [(88, [true, false, false, false, false, false, false, false, false, false, false]), (106, [true, true, false, false, true, false, true, false, false, false, false]), (119, [true, true, false, false, true, false, true, false, false, false, false]), (239, [true, false, false, false, true, false, true, false, true, false, false]), (251, [true, false, false, false, true, false, false, false, true, false, false]), (266, [true, false, false, false, true, false, false, false, true, false, false]), (278, [true, false, false, false, false, false, false, false, true, false, false]), (281, [true, false, false, false, false, false, false, false, true, false, false]), (310, [true, false, false, false, true, false, true, false, true, false, false]), (322, [true, false, false, false, true, false, false, false, true, false, false]), (337, [true, false, false, false, true, false, false, false, true, false, false]), (349, [true, false, false, false, false, false, false, false, true, false, false]), (352, [true, false, false, false, false, false, false, false, true, false, false]), (394, [true, false, false, false, true, false, true, false, true, false, false]), (412, [true, false, false, false, true, false, true, false, true, false, false]), (423, [true, false, false, false, false, false, false, false, true, false, false]), (456, [true, false, false, false, true, false, true, false, false, false, false]), (497, [true, false, false, false, false, false, false, false, true, false, true])] w
set_option maxRecDepth 100000 in
theorem am_k285_281 {e : ak_X3} {d : Nat} {ρ : List Nat} {h : ak_S} {Q : ak_S → Prop} {X : Nat → ak_S → Prop} {x8 : Int} (w :
  ak_W0 e 1 d 285 ρ 497 [some (am_r 110), none, none, none, none, none, none, none, some (am_l x8), none, some (am_i 1)] [] h (ak_qv Q X)) :
  ak_W0 e 1 d 285 ρ 281 [some (am_r 110), none, none, none, none, none, none, none, some (am_l x8), none, none] [] h (ak_qv Q X) := ak_k_ok am_cc285 400 [(88, [true, false, false, false, false, false, false, false, false, false, false]), (106, [true, true, false, false, true, false, true, false, false, false, false]), (119, [true, true, false, false, true, false, true, false, false, false, false]), (239, [true, false, false, false, true, false, true, false, true, false, false]), (251, [true, false, false, false, true, false, false, false, true, false, false]), (266, [true, false, false, false, true, false, false, false, true, false, false]), (278, [true, false, false, false, false, false, false, false, true, false, false]), (281, [true, false, false, false, false, false, false, false, true, false, false]), (310, [true, false, false, false, true, false, true, false, true, false, false]), (322, [true, false, false, false, true, false, false, false, true, false, false]), (337, [true, false, false, false, true, false, false, false, true, false, false]), (349, [true, false, false, false, false, false, false, false, true, false, false]), (352, [true, false, false, false, false, false, false, false, true, false, false]), (394, [true, false, false, false, true, false, true, false, true, false, false]), (412, [true, false, false, false, true, false, true, false, true, false, false]), (423, [true, false, false, false, false, false, false, false, true, false, false]), (456, [true, false, false, false, true, false, true, false, false, false, false]), (497, [true, false, false, false, false, false, false, false, true, false, true])] w
set_option maxRecDepth 100000 in
theorem am_k285_310 {e : ak_X3} {d : Nat} {ρ : List Nat} {h : ak_S} {Q : ak_S → Prop} {X : Nat → ak_S → Prop} {x4 x6 x8 y0 : Int} (w :
  (0 ≤ am_lsign x6 0 →
    ak_W0 e 1 d 285 ρ 322 [some (am_r 110), none, none, none, some (am_l x4), none, none, none, some (am_l x8), none, none] [am_i 0, am_i y0] h (ak_qv Q X))
  ∧ (am_lsign x6 0 < 0 →
    ak_W0 e 1 d 285 ρ 322 [some (am_r 110), none, none, none, some (am_l x4), none, none, none, some (am_l x8), none, none] [am_i 1, am_i y0] h (ak_qv Q X))) :
  ak_W0 e 1 d 285 ρ 310 [some (am_r 110), none, none, none, some (am_l x4), none, some (am_l x6), none, some (am_l x8), none, none] [am_i y0] h (ak_qv Q X) := ak_k_ok am_cc285 400 [(88, [true, false, false, false, false, false, false, false, false, false, false]), (106, [true, true, false, false, true, false, true, false, false, false, false]), (119, [true, true, false, false, true, false, true, false, false, false, false]), (239, [true, false, false, false, true, false, true, false, true, false, false]), (251, [true, false, false, false, true, false, false, false, true, false, false]), (266, [true, false, false, false, true, false, false, false, true, false, false]), (278, [true, false, false, false, false, false, false, false, true, false, false]), (281, [true, false, false, false, false, false, false, false, true, false, false]), (310, [true, false, false, false, true, false, true, false, true, false, false]), (322, [true, false, false, false, true, false, false, false, true, false, false]), (337, [true, false, false, false, true, false, false, false, true, false, false]), (349, [true, false, false, false, false, false, false, false, true, false, false]), (352, [true, false, false, false, false, false, false, false, true, false, false]), (394, [true, false, false, false, true, false, true, false, true, false, false]), (412, [true, false, false, false, true, false, true, false, true, false, false]), (423, [true, false, false, false, false, false, false, false, true, false, false]), (456, [true, false, false, false, true, false, true, false, false, false, false]), (497, [true, false, false, false, false, false, false, false, true, false, true])] w
set_option maxRecDepth 100000 in
theorem am_k285_322 {e : ak_X3} {d : Nat} {ρ : List Nat} {h : ak_S} {Q : ak_S → Prop} {X : Nat → ak_S → Prop} {x4 x8 y0 y1 : Int} (w :
  (y1 = y0 →
    ak_W0 e 1 d 285 ρ 352 [some (am_r 110), none, none, none, none, none, none, none, some (am_l x8), none, none] [] h (ak_qv Q X))
  ∧ (y1 ≠ y0 →
    (0 ≤ am_lsign x8 0 →
      ak_W0 e 1 d 285 ρ 337 [some (am_r 110), none, none, none, some (am_l x4), none, none, none, some (am_l x8), none, none] [am_i 0] h (ak_qv Q X))
    ∧ (am_lsign x8 0 < 0 →
      ak_W0 e 1 d 285 ρ 337 [some (am_r 110), none, none, none, some (am_l x4), none, none, none, some (am_l x8), none, none] [am_i 1] h (ak_qv Q X)))) :
  ak_W0 e 1 d 285 ρ 322 [some (am_r 110), none, none, none, some (am_l x4), none, none, none, some (am_l x8), none, none] [am_i y0, am_i y1] h (ak_qv Q X) := ak_k_ok am_cc285 400 [(88, [true, false, false, false, false, false, false, false, false, false, false]), (106, [true, true, false, false, true, false, true, false, false, false, false]), (119, [true, true, false, false, true, false, true, false, false, false, false]), (239, [true, false, false, false, true, false, true, false, true, false, false]), (251, [true, false, false, false, true, false, false, false, true, false, false]), (266, [true, false, false, false, true, false, false, false, true, false, false]), (278, [true, false, false, false, false, false, false, false, true, false, false]), (281, [true, false, false, false, false, false, false, false, true, false, false]), (310, [true, false, false, false, true, false, true, false, true, false, false]), (322, [true, false, false, false, true, false, false, false, true, false, false]), (337, [true, false, false, false, true, false, false, false, true, false, false]), (349, [true, false, false, false, false, false, false, false, true, false, false]), (352, [true, false, false, false, false, false, false, false, true, false, false]), (394, [true, false, false, false, true, false, true, false, true, false, false]), (412, [true, false, false, false, true, false, true, false, true, false, false]), (423, [true, false, false, false, false, false, false, false, true, false, false]), (456, [true, false, false, false, true, false, true, false, false, false, false]), (497, [true, false, false, false, false, false, false, false, true, false, true])] w
set_option maxRecDepth 100000 in
theorem am_k285_337 {e : ak_X3} {d : Nat} {ρ : List Nat} {h : ak_S} {Q : ak_S → Prop} {X : Nat → ak_S → Prop} {x4 x8 y0 : Int} (w :
  (0 ≤ am_lsign x4 0 →
    ak_W0 e 1 d 285 ρ 349 [some (am_r 110), none, none, none, none, none, none, none, some (am_l x8), none, none] [am_i 0, am_i y0] h (ak_qv Q X))
  ∧ (am_lsign x4 0 < 0 →
    ak_W0 e 1 d 285 ρ 349 [some (am_r 110), none, none, none, none, none, none, none, some (am_l x8), none, none] [am_i 1, am_i y0] h (ak_qv Q X))) :
  ak_W0 e 1 d 285 ρ 337 [some (am_r 110), none, none, none, some (am_l x4), none, none, none, some (am_l x8), none, none] [am_i y0] h (ak_qv Q X) := ak_k_ok am_cc285 400 [(88, [true, false, false, false, false, false, false, false, false, false, false]), (106, [true, true, false, false, true, false, true, false, false, false, false]), (119, [true, true, false, false, true, false, true, false, false, false, false]), (239, [true, false, false, false, true, false, true, false, true, false, false]), (251, [true, false, false, false, true, false, false, false, true, false, false]), (266, [true, false, false, false, true, false, false, false, true, false, false]), (278, [true, false, false, false, false, false, false, false, true, false, false]), (281, [true, false, false, false, false, false, false, false, true, false, false]), (310, [true, false, false, false, true, false, true, false, true, false, false]), (322, [true, false, false, false, true, false, false, false, true, false, false]), (337, [true, false, false, false, true, false, false, false, true, false, false]), (349, [true, false, false, false, false, false, false, false, true, false, false]), (352, [true, false, false, false, false, false, false, false, true, false, false]), (394, [true, false, false, false, true, false, true, false, true, false, false]), (412, [true, false, false, false, true, false, true, false, true, false, false]), (423, [true, false, false, false, false, false, false, false, true, false, false]), (456, [true, false, false, false, true, false, true, false, false, false, false]), (497, [true, false, false, false, false, false, false, false, true, false, true])] w
set_option maxRecDepth 100000 in
theorem am_k285_349 {e : ak_X3} {d : Nat} {ρ : List Nat} {h : ak_S} {Q : ak_S → Prop} {X : Nat → ak_S → Prop} {x8 y0 y1 : Int} (w :
  (y1 ≠ y0 →
    ak_W0 e 1 d 285 ρ 497 [some (am_r 110), none, none, none, none, none, none, none, some (am_l x8), none, some (am_i 0)] [] h (ak_qv Q X))
  ∧ (y1 = y0 →
    ak_W0 e 1 d 285 ρ 352 [some (am_r 110), none, none, none, none, none, none, none, some (am_l x8), none, none] [] h (ak_qv Q X))) :
  ak_W0 e 1 d 285 ρ 349 [some (am_r 110), none, none, none, none, none, none, none, some (am_l x8), none, none] [am_i y0, am_i y1] h (ak_qv Q X) := ak_k_ok am_cc285 400 [(88, [true, false, false, false, false, false, false, false, false, false, false]), (106, [true, true, false, false, true, false, true, false, false, false, false]), (119, [true, true, false, false, true, false, true, false, false, false, false]), (239, [true, false, false, false, true, false, true, false, true, false, false]), (251, [true, false, false, false, true, false, false, false, true, false, false]), (266, [true, false, false, false, true, false, false, false, true, false, false]), (278, [true, false, false, false, false, false, false, false, true, false, false]), (281, [true, false, false, false, false, false, false, false, true, false, false]), (310, [true, false, false, false, true, false, true, false, true, false, false]), (322, [true, false, false, false, true, false, false, false, true, false, false]), (337, [true, false, false, false, true, false, false, false, true, false, false]), (349, [true, false, false, false, false, false, false, false, true, false, false]), (352, [true, false, false, false, false, false, false, false, true, false, false]), (394, [true, false, false, false, true, false, true, false, true, false, false]), (412, [true, false, false, false, true, false, true, false, true, false, false]), (423, [true, false, false, false, false, false, false, false, true, false, false]), (456, [true, false, false, false, true, false, true, false, false, false, false]), (497, [true, false, false, false, false, false, false, false, true, false, true])] w
set_option maxRecDepth 100000 in
theorem am_k285_352 {e : ak_X3} {d : Nat} {ρ : List Nat} {h : ak_S} {Q : ak_S → Prop} {X : Nat → ak_S → Prop} {x8 : Int} (w :
  ak_W0 e 1 d 285 ρ 497 [some (am_r 110), none, none, none, none, none, none, none, some (am_l x8), none, some (am_i 1)] [] h (ak_qv Q X)) :
  ak_W0 e 1 d 285 ρ 352 [some (am_r 110), none, none, none, none, none, none, none, some (am_l x8), none, none] [] h (ak_qv Q X) := ak_k_ok am_cc285 400 [(88, [true, false, false, false, false, false, false, false, false, false, false]), (106, [true, true, false, false, true, false, true, false, false, false, false]), (119, [true, true, false, false, true, false, true, false, false, false, false]), (239, [true, false, false, false, true, false, true, false, true, false, false]), (251, [true, false, false, false, true, false, false, false, true, false, false]), (266, [true, false, false, false, true, false, false, false, true, false, false]), (278, [true, false, false, false, false, false, false, false, true, false, false]), (281, [true, false, false, false, false, false, false, false, true, false, false]), (310, [true, false, false, false, true, false, true, false, true, false, false]), (322, [true, false, false, false, true, false, false, false, true, false, false]), (337, [true, false, false, false, true, false, false, false, true, false, false]), (349, [true, false, false, false, false, false, false, false, true, false, false]), (352, [true, false, false, false, false, false, false, false, true, false, false]), (394, [true, false, false, false, true, false, true, false, true, false, false]), (412, [true, false, false, false, true, false, true, false, true, false, false]), (423, [true, false, false, false, false, false, false, false, true, false, false]), (456, [true, false, false, false, true, false, true, false, false, false, false]), (497, [true, false, false, false, false, false, false, false, true, false, true])] w
set_option maxRecDepth 100000 in
theorem am_k285_394 {e : ak_X3} {d : Nat} {ρ : List Nat} {h : ak_S} {Q : ak_S → Prop} {X : Nat → ak_S → Prop} {x4 x6 x8 : Int} (w :
  (am_lsign x6 ((-1)) ≠ 0 →
    ak_W0 e 1 d 285 ρ 412 [some (am_r 110), none, none, none, some (am_l x4), none, some (am_l x6), none, some (am_l x8), none, none] [] h (ak_qv Q X))
  ∧ (am_lsign x6 ((-1)) = 0 →
    (am_lsign x4 ((-9223372036854775808)) = 0 →
      ak_W0 e 1 d 285 ρ 497 [some (am_r 110), none, none, none, none, none, none, none, some (am_l x8), none, some (am_i 0)] [] h (ak_qv Q X))
    ∧ (am_lsign x4 ((-9223372036854775808)) ≠ 0 →
      ak_W0 e 1 d 285 ρ 412 [some (am_r 110), none, none, none, some (am_l x4), none, some (am_l x6), none, some (am_l x8), none, none] [] h (ak_qv Q X)))) :
  ak_W0 e 1 d 285 ρ 394 [some (am_r 110), none, none, none, some (am_l x4), none, some (am_l x6), none, some (am_l x8), none, none] [] h (ak_qv Q X) := ak_k_ok am_cc285 400 [(88, [true, false, false, false, false, false, false, false, false, false, false]), (106, [true, true, false, false, true, false, true, false, false, false, false]), (119, [true, true, false, false, true, false, true, false, false, false, false]), (239, [true, false, false, false, true, false, true, false, true, false, false]), (251, [true, false, false, false, true, false, false, false, true, false, false]), (266, [true, false, false, false, true, false, false, false, true, false, false]), (278, [true, false, false, false, false, false, false, false, true, false, false]), (281, [true, false, false, false, false, false, false, false, true, false, false]), (310, [true, false, false, false, true, false, true, false, true, false, false]), (322, [true, false, false, false, true, false, false, false, true, false, false]), (337, [true, false, false, false, true, false, false, false, true, false, false]), (349, [true, false, false, false, false, false, false, false, true, false, false]), (352, [true, false, false, false, false, false, false, false, true, false, false]), (394, [true, false, false, false, true, false, true, false, true, false, false]), (412, [true, false, false, false, true, false, true, false, true, false, false]), (423, [true, false, false, false, false, false, false, false, true, false, false]), (456, [true, false, false, false, true, false, true, false, false, false, false]), (497, [true, false, false, false, false, false, false, false, true, false, true])] w
set_option maxRecDepth 100000 in
theorem am_k285_412 {e : ak_X3} {d : Nat} {ρ : List Nat} {h : ak_S} {Q : ak_S → Prop} {X : Nat → ak_S → Prop} {x4 x6 x8 : Int} (w :
  (x4 ≠ 0) ∧ (am_lsign (am_w64 (Int.tdiv x8 x4)) x6 ≠ 0 →
    ak_W0 e 1 d 285 ρ 497 [some (am_r 110), none, none, none, none, none, none, none, some (am_l x8), none, some (am_i 0)] [] h (ak_qv Q X))
  ∧ (am_lsign (am_w64 (Int.tdiv x8 x4)) x6 = 0 →
    ak_W0 e 1 d 285 ρ 423 [some (am_r 110), none, none, none, none, none, none, none, some (am_l x8), none, none] [] h (ak_qv Q X))) :
  ak_W0 e 1 d 285 ρ 412 [some (am_r 110), none, none, none, some (am_l x4), none, some (am_l x6), none, some (am_l x8), none, none] [] h (ak_qv Q X) := ak_k_ok am_cc285 400 [(88, [true, false, false, false, false, false, false, false, false, false, false]), (106, [true, true, false, false, true, false, true, false, false, false, false]), (119, [true, true, false, false, true, false, true, false, false, false, false]), (239, [true, false, false, false, true, false, true, false, true, false, false]), (251, [true, false, false, false, true, false, false, false, true, false, false]), (266, [true, false, false, false, true, false, false, false, true, false, false]), (278, [true, false, false, false, false, false, false, false, true, false, false]), (281, [true, false, false, false, false, false, false, false, true, false, false]), (310, [true, false, false, false, true, false, true, false, true, false, false]), (322, [true, false, false, false, true, false, false, false, true, false, false]), (337, [true, false, false, false, true, false, false, false, true, false, false]), (349, [true, false, false, false, false, false, false, false, true, false, false]), (352, [true, false, false, false, false, false, false, false, true, false, false]), (394, [true, false, false, false, true, false, true, false, true, false, false]), (412, [true, false, false, false, true, false, true, false, true, false, false]), (423, [true, false, false, false, false, false, false, false, true, false, false]), (456, [true, false, false, false, true, false, true, false, false, false, false]), (497, [true, false, false, false, false, false, false, false, true, false, true])] w
set_option maxRecDepth 100000 in
theorem am_k285_423 {e : ak_X3} {d : Nat} {ρ : List Nat} {h : ak_S} {Q : ak_S → Prop} {X : Nat → ak_S → Prop} {x8 : Int} (w :
  ak_W0 e 1 d 285 ρ 497 [some (am_r 110), none, none, none, none, none, none, none, some (am_l x8), none, some (am_i 1)] [] h (ak_qv Q X)) :
  ak_W0 e 1 d 285 ρ 423 [some (am_r 110), none, none, none, none, none, none, none, some (am_l x8), none, none] [] h (ak_qv Q X) := ak_k_ok am_cc285 400 [(88, [true, false, false, false, false, false, false, false, false, false, false]), (106, [true, true, false, false, true, false, true, false, false, false, false]), (119, [true, true, false, false, true, false, true, false, false, false, false]), (239, [true, false, false, false, true, false, true, false, true, false, false]), (251, [true, false, false, false, true, false, false, false, true, false, false]), (266, [true, false, false, false, true, false, false, false, true, false, false]), (278, [true, false, false, false, false, false, false, false, true, false, false]), (281, [true, false, false, false, false, false, false, false, true, false, false]), (310, [true, false, false, false, true, false, true, false, true, false, false]), (322, [true, false, false, false, true, false, false, false, true, false, false]), (337, [true, false, false, false, true, false, false, false, true, false, false]), (349, [true, false, false, false, false, false, false, false, true, false, false]), (352, [true, false, false, false, false, false, false, false, true, false, false]), (394, [true, false, false, false, true, false, true, false, true, false, false]), (412, [true, false, false, false, true, false, true, false, true, false, false]), (423, [true, false, false, false, false, false, false, false, true, false, false]), (456, [true, false, false, false, true, false, true, false, false, false, false]), (497, [true, false, false, false, false, false, false, false, true, false, true])] w
set_option maxRecDepth 100000 in
theorem am_k285_456 {e : ak_X3} {d : Nat} {ρ : List Nat} {h : ak_S} {Q : ak_S → Prop} {X : Nat → ak_S → Prop} {x4 x6 y0 : Int} (w :
  (y0 = 0 →
    ak_W0 e 1 d 285 ρ 497 [some (am_r 110), none, none, none, none, none, none, none, some (am_l 0), none, some (am_i y0)] [] h (ak_qv Q X))
  ∧ (y0 ≠ 0 →
    (x6 ≠ 0) ∧ ak_W0 e 1 d 285 ρ 497 [some (am_r 110), none, none, none, none, none, none, none, some (am_l (am_w64 (Int.tdiv x4 x6))), none, some (am_i y0)] [] h (ak_qv Q X))) :
  ak_W0 e 1 d 285 ρ 456 [some (am_r 110), none, none, none, some (am_l x4), none, some (am_l x6), none, none, none, none] [am_i y0] h (ak_qv Q X) := ak_k_ok am_cc285 400 [(88, [true, false, false, false, false, false, false, false, false, false, false]), (106, [true, true, false, false, true, false, true, false, false, false, false]), (119, [true, true, false, false, true, false, true, false, false, false, false]), (239, [true, false, false, false, true, false, true, false, true, false, false]), (251, [true, false, false, false, true, false, false, false, true, false, false]), (266, [true, false, false, false, true, false, false, false, true, false, false]), (278, [true, false, false, false, false, false, false, false, true, false, false]), (281, [true, false, false, false, false, false, false, false, true, false, false]), (310, [true, false, false, false, true, false, true, false, true, false, false]), (322, [true, false, false, false, true, false, false, false, true, false, false]), (337, [true, false, false, false, true, false, false, false, true, false, false]), (349, [true, false, false, false, false, false, false, false, true, false, false]), (352, [true, false, false, false, false, false, false, false, true, false, false]), (394, [true, false, false, false, true, false, true, false, true, false, false]), (412, [true, false, false, false, true, false, true, false, true, false, false]), (423, [true, false, false, false, false, false, false, false, true, false, false]), (456, [true, false, false, false, true, false, true, false, false, false, false]), (497, [true, false, false, false, false, false, false, false, true, false, true])] w
set_option maxRecDepth 100000 in
theorem am_k285_497 {e : ak_X3} {d : Nat} {ρ : List Nat} {h : ak_S} {Q : ak_S → Prop} {X : Nat → ak_S → Prop} {x8 x10 : Int} (w :
  (x10 = 0 →
    ak_MV e 1 d ρ 270 [am_r 110, am_i 4] h (fun h1 =>
      Q h1) (fun _ _ => False))
  ∧ (x10 ≠ 0 →
    ak_MV e 1 d ρ 286 [am_r 110, am_l x8] h (fun h2 =>
      Q h2) (fun _ _ => False))) :
  ak_W0 e 1 d 285 ρ 497 [some (am_r 110), none, none, none, none, none, none, none, some (am_l x8), none, some (am_i x10)] [] h (ak_qv Q X) := ak_k_ok am_cc285 400 [(88, [true, false, false, false, false, false, false, false, false, false, false]), (106, [true, true, false, false, true, false, true, false, false, false, false]), (119, [true, true, false, false, true, false, true, false, false, false, false]), (239, [true, false, false, false, true, false, true, false, true, false, false]), (251, [true, false, false, false, true, false, false, false, true, false, false]), (266, [true, false, false, false, true, false, false, false, true, false, false]), (278, [true, false, false, false, false, false, false, false, true, false, false]), (281, [true, false, false, false, false, false, false, false, true, false, false]), (310, [true, false, false, false, true, false, true, false, true, false, false]), (322, [true, false, false, false, true, false, false, false, true, false, false]), (337, [true, false, false, false, true, false, false, false, true, false, false]), (349, [true, false, false, false, false, false, false, false, true, false, false]), (352, [true, false, false, false, false, false, false, false, true, false, false]), (394, [true, false, false, false, true, false, true, false, true, false, false]), (412, [true, false, false, false, true, false, true, false, true, false, false]), (423, [true, false, false, false, false, false, false, false, true, false, false]), (456, [true, false, false, false, true, false, true, false, false, false, false]), (497, [true, false, false, false, false, false, false, false, true, false, true])] w
theorem am_cc286 : am_co am_P 286 = am_lk am_rw286 ∧ am_hl am_P 286 = [] ∧ am_rtag (am_re am_P 286) = 0 := ⟨rfl, rfl, rfl⟩
set_option maxRecDepth 100000 in
theorem am_k286_0 {e : ak_X3} {d : Nat} {ρ : List Nat} {h : ak_S} {Q : ak_S → Prop} {X : Nat → ak_S → Prop} {x1 : Int} (w :
  (0 ≤ am_w32 ((am_w32 ((h.1 110 127) - 1)) - 1) ∧ am_w32 ((am_w32 ((h.1 110 127) - 1)) - 1) < (20000 : Int)) ∧ (0 ≤ am_w32 ((am_w32 ((h.1 110 127) - 1)) - 1) ∧ am_w32 ((am_w32 ((h.1 110 127) - 1)) - 1) < (20000 : Int)) ∧ Q ((am_up (am_up h.1 110 127 (am_w32 ((h.1 110 127) - 1))) 199 (am_w32 ((am_w32 ((h.1 110 127) - 1)) - 1)).toNat 1), (am_up h.2.1 200 (am_w32 ((am_w32 ((h.1 110 127) - 1)) - 1)).toNat x1), h.2.2)) :
  ak_W0 e 1 d 286 ρ 0 [some (am_r 110), some (am_l x1), none] [] h (ak_qv Q X) := ak_k_ok am_cc286 400 [] w
theorem am_cc287 : am_co am_P 287 = am_lk am_rw287 ∧ am_hl am_P 287 = [] ∧ am_rtag (am_re am_P 287) = 0 := ⟨rfl, rfl, rfl⟩
set_option maxRecDepth 100000 in
theorem am_k287_0 {e : ak_X3} {d : Nat} {ρ : List Nat} {h : ak_S} {Q : ak_S → Prop} {X : Nat → ak_S → Prop} {x1 : Int} (w :
  ak_MV e 1 d ρ 267 [am_r 110] h (fun h1 =>
    (h1.1 110 105 < 0 →
      (0 ≤ am_w32 ((am_w32 ((h1.1 110 127) - 1)) - x1) ∧ am_w32 ((am_w32 ((h1.1 110 127) - 1)) - x1) < (20000 : Int)) ∧ (0 ≤ am_w32 ((am_w32 ((h1.1 110 127) - 1)) - x1) ∧ am_w32 ((am_w32 ((h1.1 110 127) - 1)) - x1) < (20000 : Int)) ∧ (h1.1 199 (am_w32 ((am_w32 ((h1.1 110 127) - 1)) - x1)).toNat = 3 →
        (0 ≤ am_w32 (h1.2.1 200 (am_w32 ((am_w32 ((h1.1 110 127) - 1)) - x1)).toNat) ∧ am_w32 (h1.2.1 200 (am_w32 ((am_w32 ((h1.1 110 127) - 1)) - x1)).toNat) < (500 : Int)) ∧ (0 ≤ am_w32 ((am_w32 (60 * (h1.1 110 3))) + (h1.1 150 (am_w32 (h1.2.1 200 (am_w32 ((am_w32 ((h1.1 110 127) - 1)) - x1)).toNat)).toNat)) ∧ am_w32 ((am_w32 (60 * (h1.1 110 3))) + (h1.1 150 (am_w32 (h1.2.1 200 (am_w32 ((am_w32 ((h1.1 110 127) - 1)) - x1)).toNat)).toNat)) < (120 : Int)) ∧ (h1.1 136 (am_w32 ((am_w32 (60 * (h1.1 110 3))) + (h1.1 150 (am_w32 (h1.2.1 200 (am_w32 ((am_w32 ((h1.1 110 127) - 1)) - x1)).toNat)).toNat))).toNat = x1 →
          ak_MI e 1 d ρ 272 [am_r 110] ((am_up h1.1 110 127 (am_w32 ((h1.1 110 127) - (am_w32 (x1 + 1))))), h1.2) (fun v3 h2 =>
            (0 ≤ v3 →
              (0 ≤ am_w32 (h1.2.1 200 (am_w32 ((am_w32 ((h1.1 110 127) - 1)) - x1)).toNat) ∧ am_w32 (h1.2.1 200 (am_w32 ((am_w32 ((h1.1 110 127) - 1)) - x1)).toNat) < (500 : Int)) ∧ (0 ≤ v3 ∧ v3 < (564 : Int)) ∧ (0 ≤ am_w32 (h1.2.1 200 (am_w32 ((am_w32 ((h1.1 110 127) - 1)) - x1)).toNat) ∧ am_w32 (h1.2.1 200 (am_w32 ((am_w32 ((h1.1 110 127) - 1)) - x1)).toNat) < (500 : Int)) ∧ (0 ≤ h2.1 151 (am_w32 (h1.2.1 200 (am_w32 ((am_w32 ((h1.1 110 127) - 1)) - x1)).toNat)).toNat ∧ h2.1 151 (am_w32 (h1.2.1 200 (am_w32 ((am_w32 ((h1.1 110 127) - 1)) - x1)).toNat)).toNat < (564 : Int)) ∧ (0 ≤ v3 ∧ v3 < (564 : Int)) ∧ (0 ≤ am_w32 (h1.2.1 200 (am_w32 ((am_w32 ((h1.1 110 127) - 1)) - x1)).toNat) ∧ am_w32 (h1.2.1 200 (am_w32 ((am_w32 ((h1.1 110 127) - 1)) - x1)).toNat) < (500 : Int)) ∧ (0 ≤ h2.1 151 (am_w32 (h1.2.1 200 (am_w32 ((am_w32 ((h1.1 110 127) - 1)) - x1)).toNat)).toNat ∧ h2.1 151 (am_w32 (h1.2.1 200 (am_w32 ((am_w32 ((h1.1 110 127) - 1)) - x1)).toNat)).toNat < (564 : Int)) ∧ (0 ≤ v3 ∧ v3 < (564 : Int)) ∧ (0 ≤ v3 ∧ v3 < (564 : Int)) ∧ ak_W0 e 1 d 287 ρ 178 [some (am_r 110), some (am_i x1), none, none, some (am_i (am_w32 ((am_w32 (60 * (h1.1 110 3))) + (h1.1 150 (am_w32 (h1.2.1 200 (am_w32 ((am_w32 ((h1.1 110 127) - 1)) - x1)).toNat)).toNat)))), some (am_i (am_w32 ((h1.1 110 127) - x1))), some (am_i v3), some (am_i 0)] [] ((am_up (am_up (am_up (am_up h2.1 177 v3.toNat (h2.1 151 (am_w32 (h1.2.1 200 (am_w32 ((am_w32 ((h1.1 110 127) - 1)) - x1)).toNat)).toNat)) 178 v3.toNat (h2.1 178 (h2.1 151 (am_w32 (h1.2.1 200 (am_w32 ((am_w32 ((h1.1 110 127) - 1)) - x1)).toNat)).toNat).toNat)) 179 v3.toNat (h2.1 179 (h2.1 151 (am_w32 (h1.2.1 200 (am_w32 ((am_w32 ((h1.1 110 127) - 1)) - x1)).toNat)).toNat).toNat)) 183 v3.toNat 0), h2.2) (ak_qv Q X))
            ∧ (v3 < 0 →
              Q h2)) (fun _ _ => False))
        ∧ (h1.1 136 (am_w32 ((am_w32 (60 * (h1.1 110 3))) + (h1.1 150 (am_w32 (h1.2.1 200 (am_w32 ((am_w32 ((h1.1 110 127) - 1)) - x1)).toNat)).toNat))).toNat ≠ x1 →
          ak_MV e 1 d ρ 270 [am_r 110, am_i 2] h1 (fun h4 =>
            Q h4) (fun _ _ => False)))
      ∧ (h1.1 199 (am_w32 ((am_w32 ((h1.1 110 127) - 1)) - x1)).toNat ≠ 3 →
        ak_MV e 1 d ρ 270 [am_r 110, am_i 10] h1 (fun h5 =>
          Q h5) (fun _ _ => False)))
    ∧ (0 ≤ h1.1 110 105 →
      Q h1)) (fun _ _ => False)) :
  ak_W0 e 1 d 287 ρ 0 [some (am_r 110), some (am_i x1), none, none, none, none, none, none] [] h (ak_qv Q X) := ak_k_ok am_cc287 400 [(178, [true, true, false, false, true, true, true, true])] w
set_option maxRecDepth 100000 in
theorem am_k287_178 {e : ak_X3} {d : Nat} {ρ : List Nat} {h : ak_S} {Q : ak_S → Prop} {X : Nat → ak_S → Prop} {x1 x4 x5 x6 x7 : Int} (w :
  (x1 ≤ x7 →
    (0 ≤ x4 ∧ x4 < (120 : Int)) ∧ ak_MV e 1 d ρ 266 [am_r 110, am_i 2, am_i (h.1 135 x4.toNat), am_i 0, am_i 0] ((am_up h.1 110 102 x6), h.2) (fun h1 =>
      Q h1) (fun _ _ => False))
  ∧ (x7 < x1 →
    (0 ≤ am_w32 (x5 + x7) ∧ am_w32 (x5 + x7) < (20000 : Int)) ∧ (0 ≤ am_w32 (x5 + x7) ∧ am_w32 (x5 + x7) < (20000 : Int)) ∧ ak_MV e 1 d ρ 274 [am_r 110, am_i x6, am_i x7, am_i (h.1 199 (am_w32 (x5 + x7)).toNat), am_l (h.2.1 200 (am_w32 (x5 + x7)).toNat)] h (fun h2 =>
      ak_W0 e 1 d 287 ρ 178 [some (am_r 110), some (am_i x1), none, none, some (am_i x4), some (am_i x5), some (am_i x6), some (am_i (am_w32 (x7 + 1)))] [] h2 (ak_qv Q X)) (fun _ _ => False))) :
  ak_W0 e 1 d 287 ρ 178 [some (am_r 110), some (am_i x1), none, none, some (am_i x4), some (am_i x5), some (am_i x6), some (am_i x7)] [] h (ak_qv Q X) := ak_k_ok am_cc287 400 [(178, [true, true, false, false, true, true, true, true])] w
theorem am_cc288 : am_co am_P 288 = am_lk am_rw288 ∧ am_hl am_P 288 = [] ∧ am_rtag (am_re am_P 288) = 0 := ⟨rfl, rfl, rfl⟩
set_option maxRecDepth 100000 in
theorem am_k288_0 {e : ak_X3} {d : Nat} {ρ : List Nat} {h : ak_S} {Q : ak_S → Prop} {X : Nat → ak_S → Prop} {x1 : Int} (w :
  ak_MV e 1 d ρ 267 [am_r 110] h (fun h1 =>
    (h1.1 110 105 < 0 →
      (0 ≤ x1 ∧ x1 < (18000 : Int)) ∧ (0 ≤ x1 ∧ x1 < (18000 : Int)) ∧ (h1.1 114 x1.toNat ≠ 8 →
        ak_W0 e 1 d 288 ρ 35 [some (am_r 110), some (am_i x1), some (am_i (h1.1 117 x1.toNat)), none, none, none, none, none, none, none, none, none, none, none, none, none, none, none] [am_i 0] h1 (ak_qv Q X))
      ∧ (h1.1 114 x1.toNat = 8 →
        ak_W0 e 1 d 288 ρ 35 [some (am_r 110), some (am_i x1), some (am_i (h1.1 117 x1.toNat)), none, none, none, none, none, none, none, none, none, none, none, none, none, none, none] [am_i 1] h1 (ak_qv Q X)))
    ∧ (0 ≤ h1.1 110 105 →
      Q h1)) (fun _ _ => False)) :
  ak_W0 e 1 d 288 ρ 0 [some (am_r 110), some (am_i x1), none, none, none, none, none, none, none, none, none, none, none, none, none, none, none, none] [] h (ak_qv Q X) := ak_k_ok am_cc288 400 [(35, [true, true, true, false, false, false, false, false, false, false, false, false, false, false, false, false, false, false]), (74, [true, true, true, true, true, false, false, false, false, false, false, false, false, false, false, false, false, false]), (103, [true, true, true, true, true, true, false, false, false, false, false, false, false, false, false, false, false, false]), (148, [true, true, true, true, false, true, true, false, true, false, false, false, false, false, false, false, false, false]), (172, [true, true, true, false, false, true, true, false, true, false, true, false, false, false, false, false, false, false]), (212, [true, true, true, false, false, true, true, false, false, false, true, true, false, false, false, false, false, false]), (258, [true, false, true, false, false, true, true, false, false, false, true, true, false, true, false, false, false, false]), (277, [true, false, true, false, false, true, true, false, false, false, true, true, false, true, true, false, false, false]), (303, [true, false, true, false, false, true, true, false, false, false, true, true, false, true, true, true, false, false]), (366, [true, false, true, false, false, false, false, false, false, false, true, false, false, false, false, false, true, true])] w
set_option maxRecDepth 100000 in
theorem am_k288_35 {e : ak_X3} {d : Nat} {ρ : List Nat} {h : ak_S} {Q : ak_S → Prop} {X : Nat → ak_S → Prop} {x1 x2 y0 : Int} (w :
  (0 ≤ h.1 110 102 ∧ h.1 110 102 < (564 : Int)) ∧ (y0 = 0 →
    (0 ≤ am_w32 ((am_w32 ((h.1 110 127) - 1)) - x2) ∧ am_w32 ((am_w32 ((h.1 110 127) - 1)) - x2) < (20000 : Int)) ∧ ak_W0 e 1 d 288 ρ 74 [some (am_r 110), some (am_i x1), some (am_i x2), some (am_i y0), some (am_i (h.1 178 (h.1 110 102).toNat)), none, none, none, none, none, none, none, none, none, none, none, none, none] [am_i (h.1 199 (am_w32 ((am_w32 ((h.1 110 127) - 1)) - x2)).toNat)] h (ak_qv Q X))
  ∧ (y0 ≠ 0 →
    (0 ≤ h.1 178 (h.1 110 102).toNat ∧ h.1 178 (h.1 110 102).toNat < (564 : Int)) ∧ ak_W0 e 1 d 288 ρ 74 [some (am_r 110), some (am_i x1), some (am_i x2), some (am_i y0), some (am_i (h.1 178 (h.1 110 102).toNat)), none, none, none, none, none, none, none, none, none, none, none, none, none] [am_i (h.1 180 (h.1 178 (h.1 110 102).toNat).toNat)] h (ak_qv Q X))) :
  ak_W0 e 1 d 288 ρ 35 [some (am_r 110), some (am_i x1), some (am_i x2), none, none, none, none, none, none, none, none, none, none, none, none, none, none, none] [am_i y0] h (ak_qv Q X) := ak_k_ok am_cc288 400 [(35, [true, true, true, false, false, false, false, false, false, false, false, false, false, false, false, false, false, false]), (74, [true, true, true, true, true, false, false, false, false, false, false, false, false, false, false, false, false, false]), (103, [true, true, true, true, true, true, false, false, false, false, false, false, false, false, false, false, false, false]), (148, [true, true, true, true, false, true, true, false, true, false, false, false, false, false, false, false, false, false]), (172, [true, true, true, false, false, true, true, false, true, false, true, false, false, false, false, false, false, false]), (212, [true, true, true, false, false, true, true, false, false, false, true, true, false, false, false, false, false, false]), (258, [true, false, true, false, false, true, true, false, false, false, true, true, false, true, false, false, false, false]), (277, [true, false, true, false, false, true, true, false, false, false, true, true, false, true, true, false, false, false]), (303, [true, false, true, false, false, true, true, false, false, false, true, true, false, true, true, true, false, false]), (366, [true, false, true, false, false, false, false, false, false, false, true, false, false, false, false, false, true, true])] w
set_option maxRecDepth 100000 in
theorem am_k288_74 {e : ak_X3} {d : Nat} {ρ : List Nat} {h : ak_S} {Q : ak_S → Prop} {X : Nat → ak_S → Prop} {x1 x2 x3 x4 y0 : Int} (w :
  (x3 = 0 →
    (0 ≤ am_w32 ((am_w32 ((h.1 110 127) - 1)) - x2) ∧ am_w32 ((am_w32 ((h.1 110 127) - 1)) - x2) < (20000 : Int)) ∧ ak_W0 e 1 d 288 ρ 103 [some (am_r 110), some (am_i x1), some (am_i x2), some (am_i x3), some (am_i x4), some (am_i y0), none, none, none, none, none, none, none, none, none, none, none, none] [am_l (h.2.1 200 (am_w32 ((am_w32 ((h.1 110 127) - 1)) - x2)).toNat)] h (ak_qv Q X))
  ∧ (x3 ≠ 0 →
    (0 ≤ x4 ∧ x4 < (564 : Int)) ∧ ak_W0 e 1 d 288 ρ 103 [some (am_r 110), some (am_i x1), some (am_i x2), some (am_i x3), some (am_i x4), some (am_i y0), none, none, none, none, none, none, none, none, none, none, none, none] [am_l (h.2.1 181 x4.toNat)] h (ak_qv Q X))) :
  ak_W0 e 1 d 288 ρ 74 [some (am_r 110), some (am_i x1), some (am_i x2), some (am_i x3), some (am_i x4), none, none, none, none, none, none, none, none, none, none, none, none, none] [am_i y0] h (ak_qv Q X) := ak_k_ok am_cc288 400 [(35, [true, true, true, false, false, false, false, false, false, false, false, false, false, false, false, false, false, false]), (74, [true, true, true, true, true, false, false, false, false, false, false, false, false, false, false, false, false, false]), (103, [true, true, true, true, true, true, false, false, false, false, false, false, false, false, false, false, false, false]), (148, [true, true, true, true, false, true, true, false, true, false, false, false, false, false, false, false, false, false]), (172, [true, true, true, false, false, true, true, false, true, false, true, false, false, false, false, false, false, false]), (212, [true, true, true, false, false, true, true, false, false, false, true, true, false, false, false, false, false, false]), (258, [true, false, true, false, false, true, true, false, false, false, true, true, false, true, false, false, false, false]), (277, [true, false, true, false, false, true, true, false, false, false, true, true, false, true, true, false, false, false]), (303, [true, false, true, false, false, true, true, false, false, false, true, true, false, true, true, true, false, false]), (366, [true, false, true, false, false, false, false, false, false, false, true, false, false, false, false, false, true, true])] w
set_option maxRecDepth 100000 in
theorem am_k288_103 {e : ak_X3} {d : Nat} {ρ : List Nat} {h : ak_S} {Q : ak_S → Prop} {X : Nat → ak_S → Prop} {x1 x2 x3 x4 x5 y0 : Int} (w :
  ak_MI e 1 d ρ 280 [am_r 110, am_i x5, am_l y0] h (fun v2 h1 =>
    (0 ≤ v2 ∧ v2 < (200 : Int)) ∧ (0 ≤ x1 ∧ x1 < (18000 : Int)) ∧ (x3 = 0 →
      ak_W0 e 1 d 288 ρ 148 [some (am_r 110), some (am_i x1), some (am_i x2), some (am_i x3), none, some (am_i x5), some (am_l y0), none, some (am_i v2), none, none, none, none, none, none, none, none, none] [am_i 0, am_i (h1.1 142 v2.toNat), am_i (h1.1 118 x1.toNat), am_r 110] h1 (ak_qv Q X))
    ∧ (x3 ≠ 0 →
      (0 ≤ x4 ∧ x4 < (564 : Int)) ∧ ak_W0 e 1 d 288 ρ 148 [some (am_r 110), some (am_i x1), some (am_i x2), some (am_i x3), none, some (am_i x5), some (am_l y0), none, some (am_i v2), none, none, none, none, none, none, none, none, none] [am_i (h1.1 182 x4.toNat), am_i (h1.1 142 v2.toNat), am_i (h1.1 118 x1.toNat), am_r 110] h1 (ak_qv Q X))) (fun _ _ => False)) :
  ak_W0 e 1 d 288 ρ 103 [some (am_r 110), some (am_i x1), some (am_i x2), some (am_i x3), some (am_i x4), some (am_i x5), none, none, none, none, none, none, none, none, none, none, none, none] [am_l y0] h (ak_qv Q X) := ak_k_ok am_cc288 400 [(35, [true, true, true, false, false, false, false, false, false, false, false, false, false, false, false, false, false, false]), (74, [true, true, true, true, true, false, false, false, false, false, false, false, false, false, false, false, false, false]), (103, [true, true, true, true, true, true, false, false, false, false, false, false, false, false, false, false, false, false]), (148, [true, true, true, true, false, true, true, false, true, false, false, false, false, false, false, false, false, false]), (172, [true, true, true, false, false, true, true, false, true, false, true, false, false, false, false, false, false, false]), (212, [true, true, true, false, false, true, true, false, false, false, true, true, false, false, false, false, false, false]), (258, [true, false, true, false, false, true, true, false, false, false, true, true, false, true, false, false, false, false]), (277, [true, false, true, false, false, true, true, false, false, false, true, true, false, true, true, false, false, false]), (303, [true, false, true, false, false, true, true, false, false, false, true, true, false, true, true, true, false, false]), (366, [true, false, true, false, false, false, false, false, false, false, true, false, false, false, false, false, true, true])] w
set_option maxRecDepth 100000 in
theorem am_k288_148 {e : ak_X3} {d : Nat} {ρ : List Nat} {h : ak_S} {Q : ak_S → Prop} {X : Nat → ak_S → Prop} {x1 x2 x3 x5 x6 x8 y0 y1 y2 : Int} (w :
  ak_MV e 1 d ρ 260 [am_r 110, am_i y2, am_i y1, am_i y0] h (fun h1 =>
    (x3 = 0 →
      ak_W0 e 1 d 288 ρ 172 [some (am_r 110), some (am_i x1), some (am_i x2), none, none, some (am_i x5), some (am_l x6), none, some (am_i x8), none, some (am_i (am_w32 ((h1.1 110 127) - x2))), none, none, none, none, none, none, none] [am_i (am_w32 ((am_w32 ((h1.1 110 127) - x2)) - 1))] h1 (ak_qv Q X))
    ∧ (x3 ≠ 0 →
      ak_W0 e 1 d 288 ρ 172 [some (am_r 110), some (am_i x1), some (am_i x2), none, none, some (am_i x5), some (am_l x6), none, some (am_i x8), none, some (am_i (am_w32 ((h1.1 110 127) - x2))), none, none, none, none, none, none, none] [am_i (am_w32 ((h1.1 110 127) - x2))] h1 (ak_qv Q X))) (fun _ _ => False)) :
  ak_W0 e 1 d 288 ρ 148 [some (am_r 110), some (am_i x1), some (am_i x2), some (am_i x3), none, some (am_i x5), some (am_l x6), none, some (am_i x8), none, none, none, none, none, none, none, none, none] [am_i y0, am_i y1, am_i y2, am_r 110] h (ak_qv Q X) := ak_k_ok am_cc288 400 [(35, [true, true, true, false, false, false, false, false, false, false, false, false, false, false, false, false, false, false]), (74, [true, true, true, true, true, false, false, false, false, false, false, false, false, false, false, false, false, false]), (103, [true, true, true, true, true, true, false, false, false, false, false, false, false, false, false, false, false, false]), (148, [true, true, true, true, false, true, true, false, true, false, false, false, false, false, false, false, false, false]), (172, [true, true, true, false, false, true, true, false, true, false, true, false, false, false, false, false, false, false]), (212, [true, true, true, false, false, true, true, false, false, false, true, true, false, false, false, false, false, false]), (258, [true, false, true, false, false, true, true, false, false, false, true, true, false, true, false, false, false, false]), (277, [true, false, true, false, false, true, true, false, false, false, true, true, false, true, true, false, false, false]), (303, [true, false, true, false, false, true, true, false, false, false, true, true, false, true, true, true, false, false]), (366, [true, false, true, false, false, false, false, false, false, false, true, false, false, false, false, false, true, true])] w
set_option maxRecDepth 100000 in
theorem am_k288_172 {e : ak_X3} {d : Nat} {ρ : List Nat} {h : ak_S} {Q : ak_S → Prop} {X : Nat → ak_S → Prop} {x1 x2 x5 x6 x8 x10 y0 : Int} (w :
  (0 ≤ h.1 110 69 →
    (h.1 110 69 ≠ 0 →
      ak_W0 e 1 d 288 ρ 212 [some (am_r 110), some (am_i x1), some (am_i x2), none, none, some (am_i x5), some (am_l x6), none, none, none, some (am_i x10), some (am_i y0), none, none, none, none, none, none] [am_i (h.1 110 70)] h (ak_qv Q X))
    ∧ (h.1 110 69 = 0 →
      ak_W0 e 1 d 288 ρ 212 [some (am_r 110), some (am_i x1), some (am_i x2), none, none, some (am_i x5), some (am_l x6), none, none, none, some (am_i x10), some (am_i y0), none, none, none, none, none, none] [am_i x8] h (ak_qv Q X)))
  ∧ (h.1 110 69 < 0 →
    ak_MV e 1 d ρ 290 [am_r 110, am_i x1, am_i x8, am_i x5, am_l x6, am_i x2, am_i y0] h (fun h1 =>
      Q h1) (fun _ _ => False))) :
  ak_W0 e 1 d 288 ρ 172 [some (am_r 110), some (am_i x1), some (am_i x2), none, none, some (am_i x5), some (am_l x6), none, some (am_i x8), none, some (am_i x10), none, none, none, none, none, none, none] [am_i y0] h (ak_qv Q X) := ak_k_ok am_cc288 400 [(35, [true, true, true, false, false, false, false, false, false, false, false, false, false, false, false, false, false, false]), (74, [true, true, true, true, true, false, false, false, false, false, false, false, false, false, false, false, false, false]), (103, [true, true, true, true, true, true, false, false, false, false, false, false, false, false, false, false, false, false]), (148, [true, true, true, true, false, true, true, false, true, false, false, false, false, false, false, false, false, false]), (172, [true, true, true, false, false, true, true, false, true, false, true, false, false, false, false, false, false, false]), (212, [true, true, true, false, false, true, true, false, false, false, true, true, false, false, false, false, false, false]), (258, [true, false, true, false, false, true, true, false, false, false, true, true, false, true, false, false, false, false]), (277, [true, false, true, false, false, true, true, false, false, false, true, true, false, true, true, false, false, false]), (303, [true, false, true, false, false, true, true, false, false, false, true, true, false, true, true, true, false, false]), (366, [true, false, true, false, false, false, false, false, false, false, true, false, false, false, false, false, true, true])] w
set_option maxRecDepth 100000 in
theorem am_k288_212 {e : ak_X3} {d : Nat} {ρ : List Nat} {h : ak_S} {Q : ak_S → Prop} {X : Nat → ak_S → Prop} {x1 x2 x5 x6 x10 x11 y0 : Int} (w :
  (0 ≤ x1 ∧ x1 < (18000 : Int)) ∧ (0 ≤ am_w32 ((am_w32 (150 * (h.1 110 3))) + (h.1 118 x1.toNat)) ∧ am_w32 ((am_w32 (150 * (h.1 110 3))) + (h.1 118 x1.toNat)) < (300 : Int)) ∧ ak_MI e 1 d ρ 238 [am_r 110, am_i y0, am_i (h.1 129 (am_w32 ((am_w32 (150 * (h.1 110 3))) + (h.1 118 x1.toNat))).toNat), am_i 0] h (fun v2 h1 =>
    (0 ≤ v2 ∧ v2 < (2400 : Int)) ∧ (h1.1 143 v2.toNat ≠ 0 →
      ak_W0 e 1 d 288 ρ 258 [some (am_r 110), none, some (am_i x2), none, none, some (am_i x5), some (am_l x6), none, none, none, some (am_i x10), some (am_i x11), none, some (am_i v2), none, none, none, none] [am_i 0] h1 (ak_qv Q X))
    ∧ (h1.1 143 v2.toNat = 0 →
      ak_W0 e 1 d 288 ρ 258 [some (am_r 110), none, some (am_i x2), none, none, some (am_i x5), some (am_l x6), none, none, none, some (am_i x10), some (am_i x11), none, some (am_i v2), none, none, none, none] [am_i 1] h1 (ak_qv Q X))) (fun _ _ => False)) :
  ak_W0 e 1 d 288 ρ 212 [some (am_r 110), some (am_i x1), some (am_i x2), none, none, some (am_i x5), some (am_l x6), none, none, none, some (am_i x10), some (am_i x11), none, none, none, none, none, none] [am_i y0] h (ak_qv Q X) := ak_k_ok am_cc288 400 [(35, [true, true, true, false, false, false, false, false, false, false, false, false, false, false, false, false, false, false]), (74, [true, true, true, true, true, false, false, false, false, false, false, false, false, false, false, false, false, false]), (103, [true, true, true, true, true, true, false, false, false, false, false, false, false, false, false, false, false, false]), (148, [true, true, true, true, false, true, true, false, true, false, false, false, false, false, false, false, false, false]), (172, [true, true, true, false, false, true, true, false, true, false, true, false, false, false, false, false, false, false]), (212, [true, true, true, false, false, true, true, false, false, false, true, true, false, false, false, false, false, false]), (258, [true, false, true, false, false, true, true, false, false, false, true, true, false, true, false, false, false, false]), (277, [true, false, true, false, false, true, true, false, false, false, true, true, false, true, true, false, false, false]), (303, [true, false, true, false, false, true, true, false, false, false, true, true, false, true, true, true, false, false]), (366, [true, false, true, false, false, false, false, false, false, false, true, false, false, false, false, false, true, true])] w
set_option maxRecDepth 100000 in
theorem am_k288_258 {e : ak_X3} {d : Nat} {ρ : List Nat} {h : ak_S} {Q : ak_S → Prop} {X : Nat → ak_S → Prop} {x2 x5 x6 x10 x11 x13 y0 : Int} (w :
  (y0 = 0 →
    (0 ≤ x13 ∧ x13 < (2400 : Int)) ∧ ak_W0 e 1 d 288 ρ 277 [some (am_r 110), none, some (am_i x2), none, none, some (am_i x5), some (am_l x6), none, none, none, some (am_i x10), some (am_i x11), none, some (am_i x13), some (am_i y0), none, none, none] [am_i (am_w32 (h.2.1 146 x13.toNat))] h (ak_qv Q X))
  ∧ (y0 ≠ 0 →
    ak_W0 e 1 d 288 ρ 277 [some (am_r 110), none, some (am_i x2), none, none, some (am_i x5), some (am_l x6), none, none, none, some (am_i x10), some (am_i x11), none, some (am_i x13), some (am_i y0), none, none, none] [am_i 0] h (ak_qv Q X))) :
  ak_W0 e 1 d 288 ρ 258 [some (am_r 110), none, some (am_i x2), none, none, some (am_i x5), some (am_l x6), none, none, none, some (am_i x10), some (am_i x11), none, some (am_i x13), none, none, none, none] [am_i y0] h (ak_qv Q X) := ak_k_ok am_cc288 400 [(35, [true, true, true, false, false, false, false, false, false, false, false, false, false, false, false, false, false, false]), (74, [true, true, true, true, true, false, false, false, false, false, false, false, false, false, false, false, false, false]), (103, [true, true, true, true, true, true, false, false, false, false, false, false, false, false, false, false, false, false]), (148, [true, true, true, true, false, true, true, false, true, false, false, false, false, false, false, false, false, false]), (172, [true, true, true, false, false, true, true, false, true, false, true, false, false, false, false, false, false, false]), (212, [true, true, true, false, false, true, true, false, false, false, true, true, false, false, false, false, false, false]), (258, [true, false, true, false, false, true, true, false, false, false, true, true, false, true, false, false, false, false]), (277, [true, false, true, false, false, true, true, false, false, false, true, true, false, true, true, false, false, false]), (303, [true, false, true, false, false, true, true, false, false, false, true, true, false, true, true, true, false, false]), (366, [true, false, true, false, false, false, false, false, false, false, true, false, false, false, false, false, true, true])] w
set_option maxRecDepth 100000 in
theorem am_k288_277 {e : ak_X3} {d : Nat} {ρ : List Nat} {h : ak_S} {Q : ak_S → Prop} {X : Nat → ak_S → Prop} {x2 x5 x6 x10 x11 x13 x14 y0 : Int} (w :
  (x14 = 0 →
    (0 ≤ am_w32 ((am_w32 (40 * (h.1 110 3))) + y0) ∧ am_w32 ((am_w32 (40 * (h.1 110 3))) + y0) < (80 : Int)) ∧ ak_W0 e 1 d 288 ρ 303 [some (am_r 110), none, some (am_i x2), none, none, some (am_i x5), some (am_l x6), none, none, none, some (am_i x10), some (am_i x11), none, some (am_i x13), some (am_i x14), some (am_i y0), none, none] [am_i (h.1 126 (am_w32 ((am_w32 (40 * (h.1 110 3))) + y0)).toNat)] h (ak_qv Q X))
  ∧ (x14 ≠ 0 →
    ak_W0 e 1 d 288 ρ 303 [some (am_r 110), none, some (am_i x2), none, none, some (am_i x5), some (am_l x6), none, none, none, some (am_i x10), some (am_i x11), none, some (am_i x13), some (am_i x14), some (am_i y0), none, none] [am_i 0] h (ak_qv Q X))) :
  ak_W0 e 1 d 288 ρ 277 [some (am_r 110), none, some (am_i x2), none, none, some (am_i x5), some (am_l x6), none, none, none, some (am_i x10), some (am_i x11), none, some (am_i x13), some (am_i x14), none, none, none] [am_i y0] h (ak_qv Q X) := ak_k_ok am_cc288 400 [(35, [true, true, true, false, false, false, false, false, false, false, false, false, false, false, false, false, false, false]), (74, [true, true, true, true, true, false, false, false, false, false, false, false, false, false, false, false, false, false]), (103, [true, true, true, true, true, true, false, false, false, false, false, false, false, false, false, false, false, false]), (148, [true, true, true, true, false, true, true, false, true, false, false, false, false, false, false, false, false, false]), (172, [true, true, true, false, false, true, true, false, true, false, true, false, false, false, false, false, false, false]), (212, [true, true, true, false, false, true, true, false, false, false, true, true, false, false, false, false, false, false]), (258, [true, false, true, false, false, true, true, false, false, false, true, true, false, true, false, false, false, false]), (277, [true, false, true, false, false, true, true, false, false, false, true, true, false, true, true, false, false, false]), (303, [true, false, true, false, false, true, true, false, false, false, true, true, false, true, true, true, false, false]), (366, [true, false, true, false, false, false, false, false, false, false, true, false, false, false, false, false, true, true])] w
set_option maxRecDepth 100000 in
theorem am_k288_303 {e : ak_X3} {d : Nat} {ρ : List Nat} {h : ak_S} {Q : ak_S → Prop} {X : Nat → ak_S → Prop} {x2 x5 x6 x10 x11 x13 x14 x15 y0 : Int} (w :
  (y0 = x2 →
    (x14 = 0 →
      ak_MI e 1 d ρ 275 [am_r 110, am_i x15, am_i x5, am_l x6, am_i (h.1 110 69), am_i (h.1 110 70)] ((am_up h.1 110 127 x11), h.2) (fun v2 h1 =>
        ak_W0 e 1 d 288 ρ 366 [some (am_r 110), none, some (am_i x2), none, none, none, none, none, none, none, some (am_i x10), none, none, none, none, none, some (am_i v2), some (am_i 0)] [] h1 (ak_qv Q X)) (fun _ _ => False))
    ∧ (x14 ≠ 0 →
      (0 ≤ x13 ∧ x13 < (2400 : Int)) ∧ (0 ≤ x13 ∧ x13 < (2400 : Int)) ∧ ak_MV e 1 d ρ 265 [am_r 110, am_i (h.1 145 x13.toNat), am_l (h.2.1 146 x13.toNat)] ((am_up h.1 110 127 x11), h.2) (fun h3 =>
        Q h3) (fun _ _ => False)))
  ∧ (y0 ≠ x2 →
    ak_MV e 1 d ρ 270 [am_r 110, am_i 2] h (fun h4 =>
      Q h4) (fun _ _ => False))) :
  ak_W0 e 1 d 288 ρ 303 [some (am_r 110), none, some (am_i x2), none, none, some (am_i x5), some (am_l x6), none, none, none, some (am_i x10), some (am_i x11), none, some (am_i x13), some (am_i x14), some (am_i x15), none, none] [am_i y0] h (ak_qv Q X) := ak_k_ok am_cc288 400 [(35, [true, true, true, false, false, false, false, false, false, false, false, false, false, false, false, false, false, false]), (74, [true, true, true, true, true, false, false, false, false, false, false, false, false, false, false, false, false, false]), (103, [true, true, true, true, true, true, false, false, false, false, false, false, false, false, false, false, false, false]), (148, [true, true, true, true, false, true, true, false, true, false, false, false, false, false, false, false, false, false]), (172, [true, true, true, false, false, true, true, false, true, false, true, false, false, false, false, false, false, false]), (212, [true, true, true, false, false, true, true, false, false, false, true, true, false, false, false, false, false, false]), (258, [true, false, true, false, false, true, true, false, false, false, true, true, false, true, false, false, false, false]), (277, [true, false, true, false, false, true, true, false, false, false, true, true, false, true, true, false, false, false]), (303, [true, false, true, false, false, true, true, false, false, false, true, true, false, true, true, true, false, false]), (366, [true, false, true, false, false, false, false, false, false, false, true, false, false, false, false, false, true, true])] w
set_option maxRecDepth 100000 in
theorem am_k288_366 {e : ak_X3} {d : Nat} {ρ : List Nat} {h : ak_S} {Q : ak_S → Prop} {X : Nat → ak_S → Prop} {x2 x10 x16 x17 : Int} (w :
  (x2 ≤ x17 →
    Q h)
  ∧ (x17 < x2 →
    (x16 < 0 →
      Q h)
    ∧ (0 ≤ x16 →
      (0 ≤ am_w32 (x10 + x17) ∧ am_w32 (x10 + x17) < (20000 : Int)) ∧ (0 ≤ am_w32 (x10 + x17) ∧ am_w32 (x10 + x17) < (20000 : Int)) ∧ ak_MV e 1 d ρ 274 [am_r 110, am_i x16, am_i x17, am_i (h.1 199 (am_w32 (x10 + x17)).toNat), am_l (h.2.1 200 (am_w32 (x10 + x17)).toNat)] h (fun h1 =>
        ak_W0 e 1 d 288 ρ 366 [some (am_r 110), none, some (am_i x2), none, none, none, none, none, none, none, some (am_i x10), none, none, none, none, none, some (am_i x16), some (am_i (am_w32 (x17 + 1)))] [] h1 (ak_qv Q X)) (fun _ _ => False)))) :
  ak_W0 e 1 d 288 ρ 366 [some (am_r 110), none, some (am_i x2), none, none, none, none, none, none, none, some (am_i x10), none, none, none, none, none, some (am_i x16), some (am_i x17)] [] h (ak_qv Q X) := ak_k_ok am_cc288 400 [(35, [true, true, true, false, false, false, false, false, false, false, false, false, false, false, false, false, false, false]), (74, [true, true, true, true, true, false, false, false, false, false, false, false, false, false, false, false, false, false]), (103, [true, true, true, true, true, true, false, false, false, false, false, false, false, false, false, false, false, false]), (148, [true, true, true, true, false, true, true, false, true, false, false, false, false, false, false, false, false, false]), (172, [true, true, true, false, false, true, true, false, true, false, true, false, false, false, false, false, false, false]), (212, [true, true, true, false, false, true, true, false, false, false, true, true, false, false, false, false, false, false]), (258, [true, false, true, false, false, true, true, false, false, false, true, true, false, true, false, false, false, false]), (277, [true, false, true, false, false, true, true, false, false, false, true, true, false, true, true, false, false, false]), (303, [true, false, true, false, false, true, true, false, false, false, true, true, false, true, true, true, false, false]), (366, [true, false, true, false, false, false, false, false, false, false, true, false, false, false, false, false, true, true])] w
theorem am_cc289 : am_co am_P 289 = am_lk am_rw289 ∧ am_hl am_P 289 = [] ∧ am_rtag (am_re am_P 289) = 2 := ⟨rfl, rfl, rfl⟩
set_option maxRecDepth 100000 in
theorem am_k289_0 {e : ak_X3} {d : Nat} {ρ : List Nat} {h : ak_S} {Q : Int → ak_S → Prop} {X : Nat → ak_S → Prop} (w :
  ak_W0 e 1 d 289 ρ 2 [some (am_r 110), some (am_i 0)] [] h (ak_qi Q X)) :
  ak_W0 e 1 d 289 ρ 0 [some (am_r 110), none] [] h (ak_qi Q X) := ak_k_ok am_cc289 400 [(2, [true, true])] w
set_option maxRecDepth 100000 in
theorem am_k289_2 {e : ak_X3} {d : Nat} {ρ : List Nat} {h : ak_S} {Q : Int → ak_S → Prop} {X : Nat → ak_S → Prop} {x1 : Int} (w :
  (h.1 110 132 ≤ x1 →
    ((0 : Int) = 0 ∨ (0 : Int) = 1) ∧ Q 0 h)
  ∧ (x1 < h.1 110 132 →
    (0 ≤ x1 ∧ x1 < (370000 : Int)) ∧ (h.1 201 x1.toNat ≠ 8 →
      ak_W0 e 1 d 289 ρ 2 [some (am_r 110), some (am_i (am_w32 (x1 + 1)))] [] h (ak_qi Q X))
    ∧ (h.1 201 x1.toNat = 8 →
      (0 ≤ x1 ∧ x1 < (370000 : Int)) ∧ (0 ≤ h.1 202 x1.toNat ∧ h.1 202 x1.toNat < (564 : Int)) ∧ (h.1 176 (h.1 202 x1.toNat).toNat = 0 →
        ak_W0 e 1 d 289 ρ 2 [some (am_r 110), some (am_i (am_w32 (x1 + 1)))] [] h (ak_qi Q X))
      ∧ (h.1 176 (h.1 202 x1.toNat).toNat ≠ 0 →
        ((1 : Int) = 0 ∨ (1 : Int) = 1) ∧ Q 1 h)))) :
  ak_W0 e 1 d 289 ρ 2 [some (am_r 110), some (am_i x1)] [] h (ak_qi Q X) := ak_k_ok am_cc289 400 [(2, [true, true])] w
theorem am_cc290 : am_co am_P 290 = am_lk am_rw290 ∧ am_hl am_P 290 = [] ∧ am_rtag (am_re am_P 290) = 0 := ⟨rfl, rfl, rfl⟩
set_option maxRecDepth 100000 in
theorem am_k290_0 {e : ak_X3} {d : Nat} {ρ : List Nat} {h : ak_S} {Q : ak_S → Prop} {X : Nat → ak_S → Prop} {x1 x2 x3 x4 x6 x7 : Int} (w :
  (0 ≤ x1 ∧ x1 < (18000 : Int)) ∧ (0 ≤ am_w32 ((am_w32 (150 * (h.1 110 3))) + (h.1 118 x1.toNat)) ∧ am_w32 ((am_w32 (150 * (h.1 110 3))) + (h.1 118 x1.toNat)) < (300 : Int)) ∧ (0 ≤ x2 ∧ x2 < (200 : Int)) ∧ ak_MV e 1 d ρ 251 [am_r 110, am_i (h.1 142 x2.toNat), am_i 0, am_i 0] h (fun h1 =>
    (0 ≤ h1.1 110 69 →
      (h1.1 110 69 ≠ 0 →
        ak_MI e 1 d ρ 238 [am_r 110, am_i (h1.1 110 70), am_i 0, am_i 0] h1 (fun v3 h2 =>
          ak_W0 e 1 d 290 ρ 66 [some (am_r 110), none, none, some (am_i x3), some (am_l x4), none, some (am_i x6), some (am_i x7), some (am_i (h.1 129 (am_w32 ((am_w32 (150 * (h.1 110 3))) + (h.1 118 x1.toNat))).toNat)), none, none, none] [am_i v3] h2 (ak_qv Q X)) (fun _ _ => False))
      ∧ (h1.1 110 69 = 0 →
        ak_MI e 1 d ρ 238 [am_r 110, am_i x2, am_i 0, am_i 0] h1 (fun v5 h4 =>
          ak_W0 e 1 d 290 ρ 66 [some (am_r 110), none, none, some (am_i x3), some (am_l x4), none, some (am_i x6), some (am_i x7), some (am_i (h.1 129 (am_w32 ((am_w32 (150 * (h.1 110 3))) + (h.1 118 x1.toNat))).toNat)), none, none, none] [am_i v5] h4 (ak_qv Q X)) (fun _ _ => False)))
    ∧ (h1.1 110 69 < 0 →
      ak_W0 e 1 d 290 ρ 66 [some (am_r 110), none, none, some (am_i x3), some (am_l x4), none, some (am_i x6), some (am_i x7), some (am_i (h.1 129 (am_w32 ((am_w32 (150 * (h.1 110 3))) + (h.1 118 x1.toNat))).toNat)), none, none, none] [am_i ((-1))] h1 (ak_qv Q X))) (fun _ _ => False)) :
  ak_W0 e 1 d 290 ρ 0 [some (am_r 110), some (am_i x1), some (am_i x2), some (am_i x3), some (am_l x4), none, some (am_i x6), some (am_i x7), none, none, none, none] [] h (ak_qv Q X) := ak_k_ok am_cc290 400 [(66, [true, false, false, true, true, false, true, true, true, false, false, false]), (121, [true, false, false, true, true, false, true, true, true, true, false, false])] w
set_option maxRecDepth 100000 in
theorem am_k290_66 {e : ak_X3} {d : Nat} {ρ : List Nat} {h : ak_S} {Q : ak_S → Prop} {X : Nat → ak_S → Prop} {x3 x4 x6 x7 x8 y0 : Int} (w :
  (y0 < 0 →
    ak_W0 e 1 d 290 ρ 121 [some (am_r 110), none, none, some (am_i x3), some (am_l x4), none, some (am_i x6), some (am_i x7), some (am_i x8), some (am_i y0), none, none] [am_i 0] h (ak_qv Q X))
  ∧ (0 ≤ y0 →
    (0 ≤ y0 ∧ y0 < (2400 : Int)) ∧ (h.1 143 y0.toNat ≠ 1 →
      ak_W0 e 1 d 290 ρ 121 [some (am_r 110), none, none, some (am_i x3), some (am_l x4), none, some (am_i x6), some (am_i x7), some (am_i x8), some (am_i y0), none, none] [am_i 0] h (ak_qv Q X))
    ∧ (h.1 143 y0.toNat = 1 →
      (0 ≤ y0 ∧ y0 < (2400 : Int)) ∧ (0 ≤ am_w32 ((am_w32 (40 * (h.1 110 3))) + (am_w32 (h.2.1 146 y0.toNat))) ∧ am_w32 ((am_w32 (40 * (h.1 110 3))) + (am_w32 (h.2.1 146 y0.toNat))) < (80 : Int)) ∧ (h.1 126 (am_w32 ((am_w32 (40 * (h.1 110 3))) + (am_w32 (h.2.1 146 y0.toNat)))).toNat ≠ 2 →
        ak_W0 e 1 d 290 ρ 121 [some (am_r 110), none, none, some (am_i x3), some (am_l x4), none, some (am_i x6), some (am_i x7), some (am_i x8), some (am_i y0), none, none] [am_i 0] h (ak_qv Q X))
      ∧ (h.1 126 (am_w32 ((am_w32 (40 * (h.1 110 3))) + (am_w32 (h.2.1 146 y0.toNat)))).toNat = 2 →
        ak_MI e 1 d ρ 289 [am_r 110] h (fun v2 h1 =>
          (v2 ≠ 0 →
            ak_W0 e 1 d 290 ρ 121 [some (am_r 110), none, none, some (am_i x3), some (am_l x4), none, some (am_i x6), some (am_i x7), some (am_i x8), some (am_i y0), none, none] [am_i 0] h1 (ak_qv Q X))
          ∧ (v2 = 0 →
            ak_W0 e 1 d 290 ρ 121 [some (am_r 110), none, none, some (am_i x3), some (am_l x4), none, some (am_i x6), some (am_i x7), some (am_i x8), some (am_i y0), none, none] [am_i 1] h1 (ak_qv Q X))) (fun _ _ => False))))) :
  ak_W0 e 1 d 290 ρ 66 [some (am_r 110), none, none, some (am_i x3), some (am_l x4), none, some (am_i x6), some (am_i x7), some (am_i x8), none, none, none] [am_i y0] h (ak_qv Q X) := ak_k_ok am_cc290 400 [(66, [true, false, false, true, true, false, true, true, true, false, false, false]), (121, [true, false, false, true, true, false, true, true, true, true, false, false])] w
set_option maxRecDepth 100000 in
theorem am_k290_121 {e : ak_X3} {d : Nat} {ρ : List Nat} {h : ak_S} {Q : ak_S → Prop} {X : Nat → ak_S → Prop} {x3 x4 x6 x7 x8 x9 y0 : Int} (w :
  (y0 ≠ 0 →
    (0 ≤ x9 ∧ x9 < (2400 : Int)) ∧ ak_MI e 1 d ρ 275 [am_r 110, am_i (am_w32 (h.2.1 146 x9.toNat)), am_i x3, am_l x4, am_i (h.1 110 69), am_i (h.1 110 70)] ((am_up h.1 110 127 x7), h.2) (fun v2 h1 =>
      (0 ≤ v2 →
        ((0 ≤ v2 ∧ v2 < (564 : Int)) ∧ ((1 : Int) = 0 ∨ (1 : Int) = 1)) ∧ ak_MV e 1 d ρ 274 [am_r 110, am_i v2, am_i 0, am_i 1, am_l x8] ((am_up h1.1 176 v2.toNat 1), h1.2) (fun h3 =>
          ak_MV e 1 d ρ 274 [am_r 110, am_i v2, am_i 1, am_i 1, am_l x6] h3 (fun h4 =>
            Q h4) (fun _ _ => False)) (fun _ _ => False))
      ∧ (v2 < 0 →
        Q h1)) (fun _ _ => False))
  ∧ (y0 = 0 →
    ak_MV e 1 d ρ 269 [am_r 110, am_i 1, am_i 1, am_l x8] h (fun h5 =>
      Q h5) (fun _ _ => False))) :
  ak_W0 e 1 d 290 ρ 121 [some (am_r 110), none, none, some (am_i x3), some (am_l x4), none, some (am_i x6), some (am_i x7), some (am_i x8), some (am_i x9), none, none] [am_i y0] h (ak_qv Q X) := ak_k_ok am_cc290 400 [(66, [true, false, false, true, true, false, true, true, true, false, false, false]), (121, [true, false, false, true, true, false, true, true, true, true, false, false])] w
theorem am_cc291 : am_co am_P 291 = am_lk am_rw291 ∧ am_hl am_P 291 = [] ∧ am_rtag (am_re am_P 291) = 0 := ⟨rfl, rfl, rfl⟩
set_option maxRecDepth 100000 in
theorem am_k291_0 {e : ak_X3} {d : Nat} {ρ : List Nat} {h : ak_S} {Q : ak_S → Prop} {X : Nat → ak_S → Prop} {x1 : Int} (w :
  (0 ≤ x1 →
    (0 ≤ x1 ∧ x1 < (18000 : Int)) ∧ ak_MV e 1 d ρ 266 [am_r 110, am_i 2, am_i (h.1 119 x1.toNat), am_i 0, am_i 0] h (fun h1 =>
      ak_MV e 1 d ρ 267 [am_r 110] h1 (fun h2 =>
        (h2.1 110 105 < 0 →
          (0 ≤ x1 ∧ x1 < (18000 : Int)) ∧ (0 ≤ h2.1 110 102 ∧ h2.1 110 102 < (564 : Int)) ∧ (0 ≤ x1 ∧ x1 < (18000 : Int)) ∧ True ∧
            ((h2.1 114 x1.toNat < 22 ∨ 35 < h2.1 114 x1.toNat) → ak_W0 e 1 d 291 ρ 280 [some (am_r 110), some (am_i x1)] [] ((am_up h2.1 183 (h2.1 110 102).toNat (h2.1 120 x1.toNat)), h2.2) (ak_qv Q X)) ∧
            (h2.1 114 x1.toNat = 22 → ak_MV e 1 d ρ 266 [am_r 110, am_i 5, am_i x1, am_i 0, am_i 0] ((am_up h2.1 183 (h2.1 110 102).toNat (h2.1 120 x1.toNat)), h2.2) (fun h3 =>
              (0 ≤ x1 ∧ x1 < (18000 : Int)) ∧ ak_MV e 1 d ρ 266 [am_r 110, am_i 1, am_i (h3.1 115 x1.toNat), am_i 0, am_i 0] h3 (fun h4 =>
                Q h4) (fun _ _ => False)) (fun _ _ => False)) ∧
            (h2.1 114 x1.toNat = 22 + 1 → ak_W0 e 1 d 291 ρ 144 [some (am_r 110), some (am_i x1)] [] ((am_up h2.1 183 (h2.1 110 102).toNat (h2.1 120 x1.toNat)), h2.2) (ak_qv Q X)) ∧
            (h2.1 114 x1.toNat = 22 + 1 + 1 → ak_W0 e 1 d 291 ρ 144 [some (am_r 110), some (am_i x1)] [] ((am_up h2.1 183 (h2.1 110 102).toNat (h2.1 120 x1.toNat)), h2.2) (ak_qv Q X)) ∧
            (h2.1 114 x1.toNat = 22 + 1 + 1 + 1 → ak_W0 e 1 d 291 ρ 280 [some (am_r 110), some (am_i x1)] [] ((am_up h2.1 183 (h2.1 110 102).toNat (h2.1 120 x1.toNat)), h2.2) (ak_qv Q X)) ∧
            (h2.1 114 x1.toNat = 22 + 1 + 1 + 1 + 1 → ak_W0 e 1 d 291 ρ 280 [some (am_r 110), some (am_i x1)] [] ((am_up h2.1 183 (h2.1 110 102).toNat (h2.1 120 x1.toNat)), h2.2) (ak_qv Q X)) ∧
            (h2.1 114 x1.toNat = 22 + 1 + 1 + 1 + 1 + 1 → ak_W0 e 1 d 291 ρ 144 [some (am_r 110), some (am_i x1)] [] ((am_up h2.1 183 (h2.1 110 102).toNat (h2.1 120 x1.toNat)), h2.2) (ak_qv Q X)) ∧
            (h2.1 114 x1.toNat = 22 + 1 + 1 + 1 + 1 + 1 + 1 → ak_W0 e 1 d 291 ρ 144 [some (am_r 110), some (am_i x1)] [] ((am_up h2.1 183 (h2.1 110 102).toNat (h2.1 120 x1.toNat)), h2.2) (ak_qv Q X)) ∧
            (h2.1 114 x1.toNat = 22 + 1 + 1 + 1 + 1 + 1 + 1 + 1 → ak_W0 e 1 d 291 ρ 280 [some (am_r 110), some (am_i x1)] [] ((am_up h2.1 183 (h2.1 110 102).toNat (h2.1 120 x1.toNat)), h2.2) (ak_qv Q X)) ∧
            (h2.1 114 x1.toNat = 22 + 1 + 1 + 1 + 1 + 1 + 1 + 1 + 1 → ak_MV e 1 d ρ 266 [am_r 110, am_i 6, am_i x1, am_i 0, am_i 0] ((am_up h2.1 183 (h2.1 110 102).toNat (h2.1 120 x1.toNat)), h2.2) (fun h5 =>
              (0 ≤ x1 ∧ x1 < (18000 : Int)) ∧ ak_MV e 1 d ρ 266 [am_r 110, am_i 1, am_i (h5.1 115 x1.toNat), am_i 0, am_i 0] h5 (fun h6 =>
                Q h6) (fun _ _ => False)) (fun _ _ => False)) ∧
            (h2.1 114 x1.toNat = 22 + 1 + 1 + 1 + 1 + 1 + 1 + 1 + 1 + 1 → ak_W0 e 1 d 291 ρ 280 [some (am_r 110), some (am_i x1)] [] ((am_up h2.1 183 (h2.1 110 102).toNat (h2.1 120 x1.toNat)), h2.2) (ak_qv Q X)) ∧
            (h2.1 114 x1.toNat = 22 + 1 + 1 + 1 + 1 + 1 + 1 + 1 + 1 + 1 + 1 → ak_W0 e 1 d 291 ρ 280 [some (am_r 110), some (am_i x1)] [] ((am_up h2.1 183 (h2.1 110 102).toNat (h2.1 120 x1.toNat)), h2.2) (ak_qv Q X)) ∧
            (h2.1 114 x1.toNat = 22 + 1 + 1 + 1 + 1 + 1 + 1 + 1 + 1 + 1 + 1 + 1 → ak_W0 e 1 d 291 ρ 280 [some (am_r 110), some (am_i x1)] [] ((am_up h2.1 183 (h2.1 110 102).toNat (h2.1 120 x1.toNat)), h2.2) (ak_qv Q X)) ∧
            (h2.1 114 x1.toNat = 22 + 1 + 1 + 1 + 1 + 1 + 1 + 1 + 1 + 1 + 1 + 1 + 1 → (0 ≤ x1 ∧ x1 < (18000 : Int)) ∧ (0 ≤ h2.1 115 x1.toNat →
              ak_MV e 1 d ρ 266 [am_r 110, am_i 4, am_i x1, am_i 0, am_i 0] ((am_up h2.1 183 (h2.1 110 102).toNat (h2.1 120 x1.toNat)), h2.2) (fun h7 =>
                (0 ≤ x1 ∧ x1 < (18000 : Int)) ∧ ak_MV e 1 d ρ 266 [am_r 110, am_i 1, am_i (h7.1 115 x1.toNat), am_i 0, am_i 0] h7 (fun h8 =>
                  Q h8) (fun _ _ => False)) (fun _ _ => False))
            ∧ (h2.1 115 x1.toNat < 0 →
              (0 ≤ x1 ∧ x1 < (18000 : Int)) ∧ ak_MV e 1 d ρ 270 [am_r 110, am_i (h2.1 116 x1.toNat)] ((am_up h2.1 183 (h2.1 110 102).toNat (h2.1 120 x1.toNat)), h2.2) (fun h9 =>
                Q h9) (fun _ _ => False))) ∧
            (h2.1 114 x1.toNat = 22 + 1 + 1 + 1 + 1 + 1 + 1 + 1 + 1 + 1 + 1 + 1 + 1 + 1 → ak_MV e 1 d ρ 266 [am_r 110, am_i 9, am_i x1, am_i 0, am_i (h2.1 110 127)] ((am_up h2.1 183 (h2.1 110 102).toNat (h2.1 120 x1.toNat)), h2.2) (fun h10 =>
              (0 ≤ x1 ∧ x1 < (18000 : Int)) ∧ ak_MV e 1 d ρ 266 [am_r 110, am_i 2, am_i (h10.1 115 x1.toNat), am_i 0, am_i 0] h10 (fun h11 =>
                Q h11) (fun _ _ => False)) (fun _ _ => False)) ∧ True)
        ∧ (0 ≤ h2.1 110 105 →
          Q h2)) (fun _ _ => False)) (fun _ _ => False))
  ∧ (x1 < 0 →
    Q h)) :
  ak_W0 e 1 d 291 ρ 0 [some (am_r 110), some (am_i x1)] [] h (ak_qv Q X) := ak_k_ok am_cc291 400 [(144, [true, true]), (280, [true, true])] w
set_option maxRecDepth 100000 in
theorem am_k291_144 {e : ak_X3} {d : Nat} {ρ : List Nat} {h : ak_S} {Q : ak_S → Prop} {X : Nat → ak_S → Prop} {x1 : Int} (w :
  ak_MV e 1 d ρ 266 [am_r 110, am_i 4, am_i x1, am_i 0, am_i 0] h (fun h1 =>
    (0 ≤ x1 ∧ x1 < (18000 : Int)) ∧ ak_MV e 1 d ρ 266 [am_r 110, am_i 1, am_i (h1.1 116 x1.toNat), am_i 0, am_i 0] h1 (fun h2 =>
      (0 ≤ x1 ∧ x1 < (18000 : Int)) ∧ ak_MV e 1 d ρ 266 [am_r 110, am_i 1, am_i (h2.1 115 x1.toNat), am_i 0, am_i 0] h2 (fun h3 =>
        Q h3) (fun _ _ => False)) (fun _ _ => False)) (fun _ _ => False)) :
  ak_W0 e 1 d 291 ρ 144 [some (am_r 110), some (am_i x1)] [] h (ak_qv Q X) := ak_k_ok am_cc291 400 [(144, [true, true]), (280, [true, true])] w
set_option maxRecDepth 100000 in
theorem am_k291_280 {e : ak_X3} {d : Nat} {ρ : List Nat} {h : ak_S} {Q : ak_S → Prop} {X : Nat → ak_S → Prop} {x1 : Int} (w :
  ak_MV e 1 d ρ 266 [am_r 110, am_i 4, am_i x1, am_i 0, am_i 0] h (fun h1 =>
    (0 ≤ x1 ∧ x1 < (18000 : Int)) ∧ ak_MV e 1 d ρ 266 [am_r 110, am_i 1, am_i (h1.1 115 x1.toNat), am_i 0, am_i 0] h1 (fun h2 =>
      Q h2) (fun _ _ => False)) (fun _ _ => False)) :
  ak_W0 e 1 d 291 ρ 280 [some (am_r 110), some (am_i x1)] [] h (ak_qv Q X) := ak_k_ok am_cc291 400 [(144, [true, true]), (280, [true, true])] w
theorem am_cc292 : am_co am_P 292 = am_lk am_rw292 ∧ am_hl am_P 292 = [] ∧ am_rtag (am_re am_P 292) = 2 := ⟨rfl, rfl, rfl⟩
set_option maxRecDepth 100000 in
theorem am_k292_0 {e : ak_X3} {d : Nat} {ρ : List Nat} {h : ak_S} {Q : Int → ak_S → Prop} {X : Nat → ak_S → Prop} {x0 x1 : Int} (w :
  (x0 = 0 →
    ((0 : Int) = 0 ∨ (0 : Int) = 1) ∧ Q 0 h)
  ∧ (x0 ≠ 0 →
    (x0 ≠ 1 →
      ((1 : Int) = 0 ∨ (1 : Int) = 1) ∧ Q 1 h)
    ∧ (x0 = 1 →
      (am_lsign x1 0 = 0 →
        ((0 : Int) = 0 ∨ (0 : Int) = 1) ∧ Q 0 h)
      ∧ (am_lsign x1 0 ≠ 0 →
        ((1 : Int) = 0 ∨ (1 : Int) = 1) ∧ Q 1 h)))) :
  ak_W0 e 1 d 292 ρ 0 [some (am_i x0), some (am_l x1), none] [] h (ak_qi Q X) := ak_k_ok am_cc292 400 [] w
theorem am_cc293 : am_co am_P 293 = am_lk am_rw293 ∧ am_hl am_P 293 = [] ∧ am_rtag (am_re am_P 293) = 0 := ⟨rfl, rfl, rfl⟩
set_option maxRecDepth 100000 in
theorem am_k293_0 {e : ak_X3} {d : Nat} {ρ : List Nat} {h : ak_S} {Q : ak_S → Prop} {X : Nat → ak_S → Prop} {x1 : Int} (w :
  (0 ≤ am_w32 ((h.1 110 127) - 1) ∧ am_w32 ((h.1 110 127) - 1) < (20000 : Int)) ∧ (0 ≤ am_w32 ((h.1 110 127) - 1) ∧ am_w32 ((h.1 110 127) - 1) < (20000 : Int)) ∧ (0 ≤ x1 ∧ x1 < (18000 : Int)) ∧ True ∧
    ((h.1 114 x1.toNat < 20 ∨ 34 < h.1 114 x1.toNat) → ak_MV e 1 d ρ 296 [am_r 110, am_i x1] h (fun h1 =>
      Q h1) (fun _ _ => False)) ∧
    (h.1 114 x1.toNat = 20 → (0 ≤ x1 ∧ x1 < (18000 : Int)) ∧ ak_MV e 1 d ρ 274 [am_r 110, am_i (h.1 110 102), am_i (h.1 116 x1.toNat), am_i (h.1 199 (am_w32 ((h.1 110 127) - 1)).toNat), am_l (h.2.1 200 (am_w32 ((h.1 110 127) - 1)).toNat)] ((am_up h.1 110 127 (am_w32 ((h.1 110 127) - 1))), h.2) (fun h2 =>
      Q h2) (fun _ _ => False)) ∧
    (h.1 114 x1.toNat = 20 + 1 → ak_W0 e 1 d 293 ρ 152 [some (am_r 110), some (am_i x1), some (am_i (h.1 199 (am_w32 ((h.1 110 127) - 1)).toNat)), some (am_l (h.2.1 200 (am_w32 ((h.1 110 127) - 1)).toNat)), none, some (am_i (h.1 110 102)), some (am_i 0)] [] ((am_up h.1 110 127 (am_w32 ((h.1 110 127) - 1))), h.2) (ak_qv Q X)) ∧
    (h.1 114 x1.toNat = 20 + 1 + 1 → ak_MV e 1 d ρ 296 [am_r 110, am_i x1] h (fun h3 =>
      Q h3) (fun _ _ => False)) ∧
    (h.1 114 x1.toNat = 20 + 1 + 1 + 1 → ak_MV e 1 d ρ 295 [am_r 110, am_i x1] h (fun h4 =>
      Q h4) (fun _ _ => False)) ∧
    (h.1 114 x1.toNat = 20 + 1 + 1 + 1 + 1 → ak_MV e 1 d ρ 296 [am_r 110, am_i x1] h (fun h5 =>
      Q h5) (fun _ _ => False)) ∧
    (h.1 114 x1.toNat = 20 + 1 + 1 + 1 + 1 + 1 → ak_MV e 1 d ρ 296 [am_r 110, am_i x1] h (fun h6 =>
      Q h6) (fun _ _ => False)) ∧
    (h.1 114 x1.toNat = 20 + 1 + 1 + 1 + 1 + 1 + 1 → ak_MV e 1 d ρ 296 [am_r 110, am_i x1] h (fun h7 =>
      Q h7) (fun _ _ => False)) ∧
    (h.1 114 x1.toNat = 20 + 1 + 1 + 1 + 1 + 1 + 1 + 1 → ak_MV e 1 d ρ 296 [am_r 110, am_i x1] h (fun h8 =>
      Q h8) (fun _ _ => False)) ∧
    (h.1 114 x1.toNat = 20 + 1 + 1 + 1 + 1 + 1 + 1 + 1 + 1 → ak_MV e 1 d ρ 296 [am_r 110, am_i x1] h (fun h9 =>
      Q h9) (fun _ _ => False)) ∧
    (h.1 114 x1.toNat = 20 + 1 + 1 + 1 + 1 + 1 + 1 + 1 + 1 + 1 → ak_MI e 1 d ρ 292 [am_i (h.1 199 (am_w32 ((h.1 110 127) - 1)).toNat), am_l (h.2.1 200 (am_w32 ((h.1 110 127) - 1)).toNat)] ((am_up h.1 110 127 (am_w32 ((h.1 110 127) - 1))), h.2) (fun v11 h10 =>
      (v11 = 0 →
        (0 ≤ x1 ∧ x1 < (18000 : Int)) ∧ ak_MV e 1 d ρ 266 [am_r 110, am_i 2, am_i (h10.1 117 x1.toNat), am_i 0, am_i 0] h10 (fun h12 =>
          Q h12) (fun _ _ => False))
      ∧ (v11 ≠ 0 →
        (0 ≤ x1 ∧ x1 < (18000 : Int)) ∧ ak_MV e 1 d ρ 266 [am_r 110, am_i 2, am_i (h10.1 116 x1.toNat), am_i 0, am_i 0] h10 (fun h13 =>
          Q h13) (fun _ _ => False))) (fun _ _ => False)) ∧
    (h.1 114 x1.toNat = 20 + 1 + 1 + 1 + 1 + 1 + 1 + 1 + 1 + 1 + 1 → ak_MV e 1 d ρ 296 [am_r 110, am_i x1] h (fun h14 =>
      Q h14) (fun _ _ => False)) ∧
    (h.1 114 x1.toNat = 20 + 1 + 1 + 1 + 1 + 1 + 1 + 1 + 1 + 1 + 1 + 1 → (0 ≤ h.1 110 102 ∧ h.1 110 102 < (564 : Int)) ∧ (0 ≤ h.1 178 (h.1 110 102).toNat ∧ h.1 178 (h.1 110 102).toNat < (564 : Int)) ∧ (h.1 175 (h.1 178 (h.1 110 102).toNat).toNat = 0 →
      ak_MV e 1 d ρ 270 [am_r 110, am_i 9] ((am_up h.1 110 127 (am_w32 ((h.1 110 127) - 1))), h.2) (fun h15 =>
        Q h15) (fun _ _ => False))
    ∧ (h.1 175 (h.1 178 (h.1 110 102).toNat).toNat ≠ 0 →
      (0 ≤ h.1 110 102 ∧ h.1 110 102 < (564 : Int)) ∧ ak_MI e 1 d ρ 294 [am_r 110, am_i (h.1 178 (h.1 110 102).toNat)] ((am_up h.1 110 127 (am_w32 ((h.1 110 127) - 1))), h.2) (fun v17 h16 =>
        (v17 = 0 →
          ak_MV e 1 d ρ 270 [am_r 110, am_i 9] h16 (fun h18 =>
            Q h18) (fun _ _ => False))
        ∧ (v17 ≠ 0 →
          (0 ≤ h16.1 110 102 ∧ h16.1 110 102 < (564 : Int)) ∧ ak_MV e 1 d ρ 279 [am_r 110, am_i (h16.1 178 (h16.1 110 102).toNat), am_i (h.1 199 (am_w32 ((h.1 110 127) - 1)).toNat), am_l (h.2.1 200 (am_w32 ((h.1 110 127) - 1)).toNat)] h16 (fun h19 =>
            Q h19) (fun _ _ => False))) (fun _ _ => False))) ∧
    (h.1 114 x1.toNat = 20 + 1 + 1 + 1 + 1 + 1 + 1 + 1 + 1 + 1 + 1 + 1 + 1 → ak_MV e 1 d ρ 279 [am_r 110, am_i (h.1 110 102), am_i (h.1 199 (am_w32 ((h.1 110 127) - 1)).toNat), am_l (h.2.1 200 (am_w32 ((h.1 110 127) - 1)).toNat)] ((am_up h.1 110 127 (am_w32 ((h.1 110 127) - 1))), h.2) (fun h20 =>
      Q h20) (fun _ _ => False)) ∧
    (h.1 114 x1.toNat = 20 + 1 + 1 + 1 + 1 + 1 + 1 + 1 + 1 + 1 + 1 + 1 + 1 + 1 → (300 ≤ h.1 110 110 →
      Q ((am_up (am_up h.1 110 127 (am_w32 ((h.1 110 127) - 1))) 110 110 (am_w32 ((h.1 110 110) + 1))), h.2))
    ∧ (h.1 110 110 < 300 →
      (0 ≤ h.1 110 110 ∧ h.1 110 110 < (300 : Int)) ∧ (0 ≤ h.1 110 110 ∧ h.1 110 110 < (300 : Int)) ∧ Q ((am_up (am_up (am_up h.1 110 127 (am_w32 ((h.1 110 127) - 1))) 187 (h.1 110 110).toNat (h.1 199 (am_w32 ((h.1 110 127) - 1)).toNat)) 110 110 (am_w32 ((h.1 110 110) + 1))), (am_up h.2.1 188 (h.1 110 110).toNat (h.2.1 200 (am_w32 ((h.1 110 127) - 1)).toNat)), h.2.2))) ∧
    (h.1 114 x1.toNat = 20 + 1 + 1 + 1 + 1 + 1 + 1 + 1 + 1 + 1 + 1 + 1 + 1 + 1 + 1 → (0 ≤ x1 ∧ x1 < (18000 : Int)) ∧ ak_MV e 1 d ρ 269 [am_r 110, am_i (h.1 116 x1.toNat), am_i (h.1 199 (am_w32 ((h.1 110 127) - 1)).toNat), am_l (h.2.1 200 (am_w32 ((h.1 110 127) - 1)).toNat)] ((am_up h.1 110 127 (am_w32 ((h.1 110 127) - 1))), h.2) (fun h21 =>
      Q h21) (fun _ _ => False)) ∧ True) :
  ak_W0 e 1 d 293 ρ 0 [some (am_r 110), some (am_i x1), none, none, none, none, none] [] h (ak_qv Q X) := ak_k_ok am_cc293 400 [(152, [true, true, true, true, false, true, true])] w
set_option maxRecDepth 100000 in
theorem am_k293_152 {e : ak_X3} {d : Nat} {ρ : List Nat} {h : ak_S} {Q : ak_S → Prop} {X : Nat → ak_S → Prop} {x1 x2 x3 x5 x6 : Int} (w :
  (0 ≤ x1 ∧ x1 < (18000 : Int)) ∧ (h.1 116 x1.toNat ≤ x6 →
    (0 ≤ x1 ∧ x1 < (18000 : Int)) ∧ ak_MV e 1 d ρ 274 [am_r 110, am_i x5, am_i (h.1 117 x1.toNat), am_i x2, am_l x3] h (fun h1 =>
      Q h1) (fun _ _ => False))
  ∧ (x6 < h.1 116 x1.toNat →
    (0 ≤ x5 ∧ x5 < (564 : Int)) ∧ ak_W0 e 1 d 293 ρ 152 [some (am_r 110), some (am_i x1), some (am_i x2), some (am_l x3), none, some (am_i (h.1 177 x5.toNat)), some (am_i (am_w32 (x6 + 1)))] [] h (ak_qv Q X))) :
  ak_W0 e 1 d 293 ρ 152 [some (am_r 110), some (am_i x1), some (am_i x2), some (am_l x3), none, some (am_i x5), some (am_i x6)] [] h (ak_qv Q X) := ak_k_ok am_cc293 400 [(152, [true, true, true, true, false, true, true])] w
theorem am_cc294 : am_co am_P 294 = am_lk am_rw294 ∧ am_hl am_P 294 = [] ∧ am_rtag (am_re am_P 294) = 2 := ⟨rfl, rfl, rfl⟩
set_option maxRecDepth 100000 in
theorem am_k294_0 {e : ak_X3} {d : Nat} {ρ : List Nat} {h : ak_S} {Q : Int → ak_S → Prop} {X : Nat → ak_S → Prop} {x1 : Int} (w :
  ak_W0 e 1 d 294 ρ 2 [some (am_r 110), some (am_i x1), some (am_i 0)] [] h (ak_qi Q X)) :
  ak_W0 e 1 d 294 ρ 0 [some (am_r 110), some (am_i x1), none] [] h (ak_qi Q X) := ak_k_ok am_cc294 400 [(2, [true, true, true])] w
set_option maxRecDepth 100000 in
theorem am_k294_2 {e : ak_X3} {d : Nat} {ρ : List Nat} {h : ak_S} {Q : Int → ak_S → Prop} {X : Nat → ak_S → Prop} {x1 x2 : Int} (w :
  (h.1 110 132 ≤ x2 →
    ((0 : Int) = 0 ∨ (0 : Int) = 1) ∧ Q 0 h)
  ∧ (x2 < h.1 110 132 →
    (0 ≤ x2 ∧ x2 < (370000 : Int)) ∧ (h.1 201 x2.toNat ≠ 8 →
      ak_W0 e 1 d 294 ρ 2 [some (am_r 110), some (am_i x1), some (am_i (am_w32 (x2 + 1)))] [] h (ak_qi Q X))
    ∧ (h.1 201 x2.toNat = 8 →
      (0 ≤ x2 ∧ x2 < (370000 : Int)) ∧ (h.1 202 x2.toNat ≠ x1 →
        ak_W0 e 1 d 294 ρ 2 [some (am_r 110), some (am_i x1), some (am_i (am_w32 (x2 + 1)))] [] h (ak_qi Q X))
      ∧ (h.1 202 x2.toNat = x1 →
        ((1 : Int) = 0 ∨ (1 : Int) = 1) ∧ Q 1 h)))) :
  ak_W0 e 1 d 294 ρ 2 [some (am_r 110), some (am_i x1), some (am_i x2)] [] h (ak_qi Q X) := ak_k_ok am_cc294 400 [(2, [true, true, true])] w
theorem am_cc295 : am_co am_P 295 = am_lk am_rw295 ∧ am_hl am_P 295 = [] ∧ am_rtag (am_re am_P 295) = 0 := ⟨rfl, rfl, rfl⟩
set_option maxRecDepth 100000 in
theorem am_k295_0 {e : ak_X3} {d : Nat} {ρ : List Nat} {h : ak_S} {Q : ak_S → Prop} {X : Nat → ak_S → Prop} {x1 : Int} (w :
  ak_MV e 1 d ρ 267 [am_r 110] h (fun h1 =>
    (h1.1 110 105 < 0 →
      (0 ≤ am_w32 ((h1.1 110 127) - 2) ∧ am_w32 ((h1.1 110 127) - 2) < (20000 : Int)) ∧ (0 ≤ am_w32 ((h1.1 110 127) - 2) ∧ am_w32 ((h1.1 110 127) - 2) < (20000 : Int)) ∧ ak_MI e 1 d ρ 280 [am_r 110, am_i (h1.1 199 (am_w32 ((h1.1 110 127) - 2)).toNat), am_l (h1.2.1 200 (am_w32 ((h1.1 110 127) - 2)).toNat)] h1 (fun v3 h2 =>
        (0 ≤ x1 ∧ x1 < (18000 : Int)) ∧ (0 ≤ v3 ∧ v3 < (200 : Int)) ∧ ak_MV e 1 d ρ 260 [am_r 110, am_i (h2.1 117 x1.toNat), am_i (h2.1 142 v3.toNat), am_i 0] h2 (fun h4 =>
          (0 ≤ h4.1 110 69 →
            (h4.1 110 69 ≠ 0 →
              ak_W0 e 1 d 295 ρ 107 [some (am_r 110), some (am_i x1), none, none] [am_i (h4.1 110 70), am_r 110] h4 (ak_qv Q X))
            ∧ (h4.1 110 69 = 0 →
              ak_W0 e 1 d 295 ρ 107 [some (am_r 110), some (am_i x1), none, none] [am_i v3, am_r 110] h4 (ak_qv Q X)))
          ∧ (h4.1 110 69 < 0 →
            (0 ≤ x1 ∧ x1 < (18000 : Int)) ∧ (0 ≤ am_w32 ((am_w32 (150 * (h4.1 110 3))) + (h4.1 117 x1.toNat)) ∧ am_w32 ((am_w32 (150 * (h4.1 110 3))) + (h4.1 117 x1.toNat)) < (300 : Int)) ∧ ak_MV e 1 d ρ 269 [am_r 110, am_i 1, am_i 1, am_l (h4.1 129 (am_w32 ((am_w32 (150 * (h4.1 110 3))) + (h4.1 117 x1.toNat))).toNat)] h4 (fun h5 =>
              Q h5) (fun _ _ => False))) (fun _ _ => False)) (fun _ _ => False))
    ∧ (0 ≤ h1.1 110 105 →
      Q h1)) (fun _ _ => False)) :
  ak_W0 e 1 d 295 ρ 0 [some (am_r 110), some (am_i x1), none, none] [] h (ak_qv Q X) := ak_k_ok am_cc295 400 [(107, [true, true, false, false])] w
set_option maxRecDepth 100000 in
theorem am_k295_107 {e : ak_X3} {d : Nat} {ρ : List Nat} {h : ak_S} {Q : ak_S → Prop} {X : Nat → ak_S → Prop} {x1 y0 : Int} (w :
  (0 ≤ x1 ∧ x1 < (18000 : Int)) ∧ (0 ≤ am_w32 ((am_w32 (150 * (h.1 110 3))) + (h.1 117 x1.toNat)) ∧ am_w32 ((am_w32 (150 * (h.1 110 3))) + (h.1 117 x1.toNat)) < (300 : Int)) ∧ ak_MI e 1 d ρ 238 [am_r 110, am_i y0, am_i (h.1 129 (am_w32 ((am_w32 (150 * (h.1 110 3))) + (h.1 117 x1.toNat))).toNat), am_i 0] h (fun v2 h1 =>
    (0 ≤ v2 ∧ v2 < (2400 : Int)) ∧ (h1.1 143 v2.toNat ≠ 1 →
      (0 ≤ am_w32 ((h1.1 110 127) - 1) ∧ am_w32 ((h1.1 110 127) - 1) < (20000 : Int)) ∧ (0 ≤ v2 ∧ v2 < (2400 : Int)) ∧ (0 ≤ am_w32 ((h1.1 110 127) - 1) ∧ am_w32 ((h1.1 110 127) - 1) < (20000 : Int)) ∧ (0 ≤ v2 ∧ v2 < (2400 : Int)) ∧ Q ((am_up (am_up h1.1 145 v2.toNat (h1.1 199 (am_w32 ((h1.1 110 127) - 1)).toNat)) 110 127 (am_w32 ((h1.1 110 127) - 2))), (am_up h1.2.1 146 v2.toNat (h1.2.1 200 (am_w32 ((h1.1 110 127) - 1)).toNat)), h1.2.2))
    ∧ (h1.1 143 v2.toNat = 1 →
      ak_MV e 1 d ρ 270 [am_r 110, am_i 11] h1 (fun h3 =>
        Q h3) (fun _ _ => False))) (fun _ _ => False)) :
  ak_W0 e 1 d 295 ρ 107 [some (am_r 110), some (am_i x1), none, none] [am_i y0, am_r 110] h (ak_qv Q X) := ak_k_ok am_cc295 400 [(107, [true, true, false, false])] w
theorem am_cc296 : am_co am_P 296 = am_lk am_rw296 ∧ am_hl am_P 296 = [] ∧ am_rtag (am_re am_P 296) = 0 := ⟨rfl, rfl, rfl⟩
set_option maxRecDepth 100000 in
theorem am_k296_0 {e : ak_X3} {d : Nat} {ρ : List Nat} {h : ak_S} {Q : ak_S → Prop} {X : Nat → ak_S → Prop} {x1 : Int} (w :
  (0 ≤ x1 ∧ x1 < (18000 : Int)) ∧ (h.1 114 x1.toNat = 24 →
    ((1 : Int) = 0 →
      ak_W0 e 1 d 296 ρ 58 [some (am_r 110), some (am_i x1), none, none, none, none, none, none, none] [am_i (am_w32 ((h.1 110 127) - 1))] h (ak_qv Q X))
    ∧ ((1 : Int) ≠ 0 →
      ak_W0 e 1 d 296 ρ 58 [some (am_r 110), some (am_i x1), none, none, none, none, none, none, none] [am_i (am_w32 ((h.1 110 127) - 2))] h (ak_qv Q X)))
  ∧ (h.1 114 x1.toNat ≠ 24 →
    (0 ≤ x1 ∧ x1 < (18000 : Int)) ∧ (h.1 114 x1.toNat = 27 →
      ((1 : Int) = 0 →
        ak_W0 e 1 d 296 ρ 58 [some (am_r 110), some (am_i x1), none, none, none, none, none, none, none] [am_i (am_w32 ((h.1 110 127) - 1))] h (ak_qv Q X))
      ∧ ((1 : Int) ≠ 0 →
        ak_W0 e 1 d 296 ρ 58 [some (am_r 110), some (am_i x1), none, none, none, none, none, none, none] [am_i (am_w32 ((h.1 110 127) - 2))] h (ak_qv Q X)))
    ∧ (h.1 114 x1.toNat ≠ 27 →
      (0 ≤ x1 ∧ x1 < (18000 : Int)) ∧ (h.1 114 x1.toNat ≠ 28 →
        ((0 : Int) = 0 →
          ak_W0 e 1 d 296 ρ 58 [some (am_r 110), some (am_i x1), none, none, none, none, none, none, none] [am_i (am_w32 ((h.1 110 127) - 1))] h (ak_qv Q X))
        ∧ ((0 : Int) ≠ 0 →
          ak_W0 e 1 d 296 ρ 58 [some (am_r 110), some (am_i x1), none, none, none, none, none, none, none] [am_i (am_w32 ((h.1 110 127) - 2))] h (ak_qv Q X)))
      ∧ (h.1 114 x1.toNat = 28 →
        ((1 : Int) = 0 →
          ak_W0 e 1 d 296 ρ 58 [some (am_r 110), some (am_i x1), none, none, none, none, none, none, none] [am_i (am_w32 ((h.1 110 127) - 1))] h (ak_qv Q X))
        ∧ ((1 : Int) ≠ 0 →
          ak_W0 e 1 d 296 ρ 58 [some (am_r 110), some (am_i x1), none, none, none, none, none, none, none] [am_i (am_w32 ((h.1 110 127) - 2))] h (ak_qv Q X)))))) :
  ak_W0 e 1 d 296 ρ 0 [some (am_r 110), some (am_i x1), none, none, none, none, none, none, none] [] h (ak_qv Q X) := ak_k_ok am_cc296 400 [(58, [true, true, false, false, false, false, false, false, false]), (86, [true, true, false, true, false, false, false, false, false]), (125, [true, true, false, true, true, false, false, false, false]), (195, [true, true, false, true, true, true, false, false, false]), (223, [true, true, false, true, false, true, true, false, false]), (252, [true, true, false, true, false, false, true, false, false])] w
set_option maxRecDepth 100000 in
theorem am_k296_58 {e : ak_X3} {d : Nat} {ρ : List Nat} {h : ak_S} {Q : ak_S → Prop} {X : Nat → ak_S → Prop} {x1 y0 : Int} (w :
  (0 ≤ x1 ∧ x1 < (18000 : Int)) ∧ (h.1 114 x1.toNat = 27 →
    ak_W0 e 1 d 296 ρ 86 [some (am_r 110), some (am_i x1), none, some (am_i y0), none, none, none, none, none] [am_i 1] h (ak_qv Q X))
  ∧ (h.1 114 x1.toNat ≠ 27 →
    (0 ≤ x1 ∧ x1 < (18000 : Int)) ∧ (h.1 114 x1.toNat ≠ 28 →
      ak_W0 e 1 d 296 ρ 86 [some (am_r 110), some (am_i x1), none, some (am_i y0), none, none, none, none, none] [am_i 0] h (ak_qv Q X))
    ∧ (h.1 114 x1.toNat = 28 →
      ak_W0 e 1 d 296 ρ 86 [some (am_r 110), some (am_i x1), none, some (am_i y0), none, none, none, none, none] [am_i 1] h (ak_qv Q X)))) :
  ak_W0 e 1 d 296 ρ 58 [some (am_r 110), some (am_i x1), none, none, none, none, none, none, none] [am_i y0] h (ak_qv Q X) := ak_k_ok am_cc296 400 [(58, [true, true, false, false, false, false, false, false, false]), (86, [true, true, false, true, false, false, false, false, false]), (125, [true, true, false, true, true, false, false, false, false]), (195, [true, true, false, true, true, true, false, false, false]), (223, [true, true, false, true, false, true, true, false, false]), (252, [true, true, false, true, false, false, true, false, false])] w
set_option maxRecDepth 100000 in
theorem am_k296_86 {e : ak_X3} {d : Nat} {ρ : List Nat} {h : ak_S} {Q : ak_S → Prop} {X : Nat → ak_S → Prop} {x1 x3 y0 : Int} (w :
  (0 ≤ x3 ∧ x3 < (20000 : Int)) ∧ (h.1 199 x3.toNat ≠ 2 →
    ak_MV e 1 d ρ 270 [am_r 110, am_i 6] h (fun h1 =>
      Q h1) (fun _ _ => False))
  ∧ (h.1 199 x3.toNat = 2 →
    (y0 = 0 →
      ak_W0 e 1 d 296 ρ 125 [some (am_r 110), some (am_i x1), none, some (am_i x3), some (am_i y0), none, none, none, none] [] h (ak_qv Q X))
    ∧ (y0 ≠ 0 →
      (0 ≤ am_w32 ((h.1 110 127) - 1) ∧ am_w32 ((h.1 110 127) - 1) < (20000 : Int)) ∧ (h.1 199 (am_w32 ((h.1 110 127) - 1)).toNat = 2 →
        ak_W0 e 1 d 296 ρ 125 [some (am_r 110), some (am_i x1), none, some (am_i x3), some (am_i y0), none, none, none, none] [] h (ak_qv Q X))
      ∧ (h.1 199 (am_w32 ((h.1 110 127) - 1)).toNat ≠ 2 →
        ak_MV e 1 d ρ 270 [am_r 110, am_i 6] h (fun h2 =>
          Q h2) (fun _ _ => False))))) :
  ak_W0 e 1 d 296 ρ 86 [some (am_r 110), some (am_i x1), none, some (am_i x3), none, none, none, none, none] [am_i y0] h (ak_qv Q X) := ak_k_ok am_cc296 400 [(58, [true, true, false, false, false, false, false, false, false]), (86, [true, true, false, true, false, false, false, false, false]), (125, [true, true, false, true, true, false, false, false, false]), (195, [true, true, false, true, true, true, false, false, false]), (223, [true, true, false, true, false, true, true, false, false]), (252, [true, true, false, true, false, false, true, false, false])] w
set_option maxRecDepth 100000 in
theorem am_k296_125 {e : ak_X3} {d : Nat} {ρ : List Nat} {h : ak_S} {Q : ak_S → Prop} {X : Nat → ak_S → Prop} {x1 x3 x4 : Int} (w :
  (0 ≤ x3 ∧ x3 < (20000 : Int)) ∧ (0 ≤ x1 ∧ x1 < (18000 : Int)) ∧ (h.1 114 x1.toNat ≠ 24 →
    (0 ≤ x1 ∧ x1 < (18000 : Int)) ∧ (h.1 114 x1.toNat ≠ 25 →
      (0 ≤ x1 ∧ x1 < (18000 : Int)) ∧ (h.1 114 x1.toNat ≠ 26 →
        (0 ≤ x1 ∧ x1 < (18000 : Int)) ∧ (h.1 114 x1.toNat ≠ 27 →
          ak_W0 e 1 d 296 ρ 195 [some (am_r 110), some (am_i x1), none, some (am_i x3), some (am_i x4), some (am_i (am_w32 (h.2.1 200 x3.toNat))), none, none, none] [am_i 4] h (ak_qv Q X))
        ∧ (h.1 114 x1.toNat = 27 →
          ak_W0 e 1 d 296 ρ 195 [some (am_r 110), some (am_i x1), none, some (am_i x3), some (am_i x4), some (am_i (am_w32 (h.2.1 200 x3.toNat))), none, none, none] [am_i 3] h (ak_qv Q X)))
      ∧ (h.1 114 x1.toNat = 26 →
        ak_W0 e 1 d 296 ρ 195 [some (am_r 110), some (am_i x1), none, some (am_i x3), some (am_i x4), some (am_i (am_w32 (h.2.1 200 x3.toNat))), none, none, none] [am_i 2] h (ak_qv Q X)))
    ∧ (h.1 114 x1.toNat = 25 →
      ak_W0 e 1 d 296 ρ 195 [some (am_r 110), some (am_i x1), none, some (am_i x3), some (am_i x4), some (am_i (am_w32 (h.2.1 200 x3.toNat))), none, none, none] [am_i 1] h (ak_qv Q X)))
  ∧ (h.1 114 x1.toNat = 24 →
    ak_W0 e 1 d 296 ρ 195 [some (am_r 110), some (am_i x1), none, some (am_i x3), some (am_i x4), some (am_i (am_w32 (h.2.1 200 x3.toNat))), none, none, none] [am_i 0] h (ak_qv Q X))) :
  ak_W0 e 1 d 296 ρ 125 [some (am_r 110), some (am_i x1), none, some (am_i x3), some (am_i x4), none, none, none, none] [] h (ak_qv Q X) := ak_k_ok am_cc296 400 [(58, [true, true, false, false, false, false, false, false, false]), (86, [true, true, false, true, false, false, false, false, false]), (125, [true, true, false, true, true, false, false, false, false]), (195, [true, true, false, true, true, true, false, false, false]), (223, [true, true, false, true, false, true, true, false, false]), (252, [true, true, false, true, false, false, true, false, false])] w
set_option maxRecDepth 100000 in
theorem am_k296_195 {e : ak_X3} {d : Nat} {ρ : List Nat} {h : ak_S} {Q : ak_S → Prop} {X : Nat → ak_S → Prop} {x1 x3 x4 x5 y0 : Int} (w :
  (x4 = 0 →
    (0 ≤ x1 ∧ x1 < (18000 : Int)) ∧ ak_W0 e 1 d 296 ρ 223 [some (am_r 110), some (am_i x1), none, some (am_i x3), none, some (am_i x5), some (am_i y0), none, none] [am_i (h.1 117 x1.toNat)] h (ak_qv Q X))
  ∧ (x4 ≠ 0 →
    (0 ≤ am_w32 ((h.1 110 127) - 1) ∧ am_w32 ((h.1 110 127) - 1) < (20000 : Int)) ∧ ak_W0 e 1 d 296 ρ 223 [some (am_r 110), some (am_i x1), none, some (am_i x3), none, some (am_i x5), some (am_i y0), none, none] [am_i (am_w32 (h.2.1 200 (am_w32 ((h.1 110 127) - 1)).toNat))] h (ak_qv Q X))) :
  ak_W0 e 1 d 296 ρ 195 [some (am_r 110), some (am_i x1), none, some (am_i x3), some (am_i x4), some (am_i x5), none, none, none] [am_i y0] h (ak_qv Q X) := ak_k_ok am_cc296 400 [(58, [true, true, false, false, false, false, false, false, false]), (86, [true, true, false, true, false, false, false, false, false]), (125, [true, true, false, true, true, false, false, false, false]), (195, [true, true, false, true, true, true, false, false, false]), (223, [true, true, false, true, false, true, true, false, false]), (252, [true, true, false, true, false, false, true, false, false])] w
set_option maxRecDepth 100000 in
theorem am_k296_223 {e : ak_X3} {d : Nat} {ρ : List Nat} {h : ak_S} {Q : ak_S → Prop} {X : Nat → ak_S → Prop} {x1 x3 x5 x6 y0 : Int} (w :
  (x6 ≠ 0 →
    ak_W0 e 1 d 296 ρ 252 [some (am_r 110), some (am_i x1), none, some (am_i x3), none, none, some (am_i x6), none, none] [am_i 0, am_i y0, am_i x6, am_i x5, am_r 110] h (ak_qv Q X))
  ∧ (x6 = 0 →
    (0 ≤ am_w32 ((h.1 110 127) - 1) ∧ am_w32 ((h.1 110 127) - 1) < (20000 : Int)) ∧ ak_W0 e 1 d 296 ρ 252 [some (am_r 110), some (am_i x1), none, some (am_i x3), none, none, some (am_i x6), none, none] [am_i (h.1 199 (am_w32 ((h.1 110 127) - 1)).toNat), am_i y0, am_i x6, am_i x5, am_r 110] h (ak_qv Q X))) :
  ak_W0 e 1 d 296 ρ 223 [some (am_r 110), some (am_i x1), none, some (am_i x3), none, some (am_i x5), some (am_i x6), none, none] [am_i y0] h (ak_qv Q X) := ak_k_ok am_cc296 400 [(58, [true, true, false, false, false, false, false, false, false]), (86, [true, true, false, true, false, false, false, false, false]), (125, [true, true, false, true, true, false, false, false, false]), (195, [true, true, false, true, true, true, false, false, false]), (223, [true, true, false, true, false, true, true, false, false]), (252, [true, true, false, true, false, false, true, false, false])] w
set_option maxRecDepth 100000 in
theorem am_k296_252 {e : ak_X3} {d : Nat} {ρ : List Nat} {h : ak_S} {Q : ak_S → Prop} {X : Nat → ak_S → Prop} {x1 x3 x6 y0 y1 y2 y3 : Int} (w :
  (x6 ≠ 0 →
    (x6 ≠ 1 →
      ak_MI e 1 d ρ 297 [am_r 110, am_i y3, am_i y2, am_i y1, am_i y0, am_l 0] h (fun v2 h1 =>
        (v2 ≤ 0 →
          Q ((am_up h1.1 110 127 x3), h1.2))
        ∧ (0 < v2 →
          ak_MV e 1 d ρ 270 [am_r 110, am_i v2] h1 (fun h3 =>
            Q h3) (fun _ _ => False))) (fun _ _ => False))
    ∧ (x6 = 1 →
      (0 ≤ x1 ∧ x1 < (18000 : Int)) ∧ ak_MI e 1 d ρ 297 [am_r 110, am_i y3, am_i y2, am_i y1, am_i y0, am_l (h.1 118 x1.toNat)] h (fun v5 h4 =>
        (v5 ≤ 0 →
          Q ((am_up h4.1 110 127 x3), h4.2))
        ∧ (0 < v5 →
          ak_MV e 1 d ρ 270 [am_r 110, am_i v5] h4 (fun h6 =>
            Q h6) (fun _ _ => False))) (fun _ _ => False)))
  ∧ (x6 = 0 →
    (0 ≤ am_w32 ((h.1 110 127) - 1) ∧ am_w32 ((h.1 110 127) - 1) < (20000 : Int)) ∧ ak_MI e 1 d ρ 297 [am_r 110, am_i y3, am_i y2, am_i y1, am_i y0, am_l (h.2.1 200 (am_w32 ((h.1 110 127) - 1)).toNat)] h (fun v8 h7 =>
      (v8 ≤ 0 →
        Q ((am_up h7.1 110 127 x3), h7.2))
      ∧ (0 < v8 →
        ak_MV e 1 d ρ 270 [am_r 110, am_i v8] h7 (fun h9 =>
          Q h9) (fun _ _ => False))) (fun _ _ => False))) :
  ak_W0 e 1 d 296 ρ 252 [some (am_r 110), some (am_i x1), none, some (am_i x3), none, none, some (am_i x6), none, none] [am_i y0, am_i y1, am_i y2, am_i y3, am_r 110] h (ak_qv Q X) := ak_k_ok am_cc296 400 [(58, [true, true, false, false, false, false, false, false, false]), (86, [true, true, false, true, false, false, false, false, false]), (125, [true, true, false, true, true, false, false, false, false]), (195, [true, true, false, true, true, true, false, false, false]), (223, [true, true, false, true, false, true, true, false, false]), (252, [true, true, false, true, false, false, true, false, false])] w
theorem am_cc297 : am_co am_P 297 = am_lk am_rw297 ∧ am_hl am_P 297 = [] ∧ am_rtag (am_re am_P 297) = 1 := ⟨rfl, rfl, rfl⟩
set_option maxRecDepth 100000 in
theorem am_k297_0 {e : ak_X3} {d : Nat} {ρ : List Nat} {h : ak_S} {Q : Int → ak_S → Prop} {X : Nat → ak_S → Prop} {x1 x2 x3 x4 x5 : Int} (w :
  (x2 ≤ 2 →
    ak_W0 e 1 d 297 ρ 13 [some (am_r 110), some (am_i x1), some (am_i x2), some (am_i x3), some (am_i x4), some (am_l x5), none, none] [am_i 0, am_i x3, am_i x1, am_r 110] h (ak_qi Q X))
  ∧ (2 < x2 →
    ak_W0 e 1 d 297 ρ 13 [some (am_r 110), some (am_i x1), some (am_i x2), some (am_i x3), some (am_i x4), some (am_l x5), none, none] [am_i 1, am_i x3, am_i x1, am_r 110] h (ak_qi Q X))) :
  ak_W0 e 1 d 297 ρ 0 [some (am_r 110), some (am_i x1), some (am_i x2), some (am_i x3), some (am_i x4), some (am_l x5), none, none] [] h (ak_qi Q X) := ak_k_ok am_cc297 400 [(13, [true, true, true, true, true, true, false, false]), (42, [true, true, true, true, true, true, false, true])] w
set_option maxRecDepth 100000 in
theorem am_k297_13 {e : ak_X3} {d : Nat} {ρ : List Nat} {h : ak_S} {Q : Int → ak_S → Prop} {X : Nat → ak_S → Prop} {x1 x2 x3 x4 x5 y0 y1 y2 : Int} (w :
  ak_MI e 1 d ρ 238 [am_r 110, am_i y2, am_i y1, am_i y0] h (fun v2 h1 =>
    (2 ≤ x2 →
      (x2 ≠ 3 →
        (0 ≤ v2 →
          ak_MI e 1 d ρ 244 [am_r 110, am_i x1, am_i v2] h1 (fun v4 h3 =>
            (v4 = 0 →
              Q 8 h3)
            ∧ (v4 ≠ 0 →
              Q 0 h3)) (fun _ _ => False))
        ∧ (v2 < 0 →
          Q 7 h1))
      ∧ (x2 = 3 →
        (v2 < 0 →
          ak_MI e 1 d ρ 243 [am_r 110, am_i x1, am_i 2, am_i x3, am_i 0, am_l 0] h1 (fun v6 h5 =>
            (v6 = 0 →
              Q 8 h5)
            ∧ (v6 ≠ 0 →
              Q 0 h5)) (fun _ _ => False))
        ∧ (0 ≤ v2 →
          Q 7 h1)))
    ∧ (x2 < 2 →
      (v2 < 0 →
        ak_W0 e 1 d 297 ρ 42 [some (am_r 110), some (am_i x1), some (am_i x2), some (am_i x3), some (am_i x4), some (am_l x5), none, some (am_i v2)] [] h1 (ak_qi Q X))
      ∧ (0 ≤ v2 →
        (0 ≤ v2 ∧ v2 < (2400 : Int)) ∧ (h1.1 143 v2.toNat = x2 →
          ak_W0 e 1 d 297 ρ 42 [some (am_r 110), some (am_i x1), some (am_i x2), some (am_i x3), some (am_i x4), some (am_l x5), none, some (am_i v2)] [] h1 (ak_qi Q X))
        ∧ (h1.1 143 v2.toNat ≠ x2 →
          Q 7 h1)))) (fun _ _ => False)) :
  ak_W0 e 1 d 297 ρ 13 [some (am_r 110), some (am_i x1), some (am_i x2), some (am_i x3), some (am_i x4), some (am_l x5), none, none] [am_i y0, am_i y1, am_i y2, am_r 110] h (ak_qi Q X) := ak_k_ok am_cc297 400 [(13, [true, true, true, true, true, true, false, false]), (42, [true, true, true, true, true, true, false, true])] w
set_option maxRecDepth 100000 in
theorem am_k297_42 {e : ak_X3} {d : Nat} {ρ : List Nat} {h : ak_S} {Q : Int → ak_S → Prop} {X : Nat → ak_S → Prop} {x1 x2 x3 x4 x5 x7 : Int} (w :
  (0 ≤ x7 →
    (0 ≤ x7 ∧ x7 < (2400 : Int)) ∧ (0 ≤ x7 ∧ x7 < (2400 : Int)) ∧ Q 0 ((am_up h.1 145 x7.toNat x4), (am_up h.2.1 146 x7.toNat x5), h.2.2))
  ∧ (x7 < 0 →
    ak_MI e 1 d ρ 243 [am_r 110, am_i x1, am_i x2, am_i x3, am_i x4, am_l x5] h (fun v2 h1 =>
      (v2 = 0 →
        Q 8 h1)
      ∧ (v2 ≠ 0 →
        Q 0 h1)) (fun _ _ => False))) :
  ak_W0 e 1 d 297 ρ 42 [some (am_r 110), some (am_i x1), some (am_i x2), some (am_i x3), some (am_i x4), some (am_l x5), none, some (am_i x7)] [] h (ak_qi Q X) := ak_k_ok am_cc297 400 [(13, [true, true, true, true, true, true, false, false]), (42, [true, true, true, true, true, true, false, true])] w
theorem am_cc298 : am_co am_P 298 = am_lk am_rw298 ∧ am_hl am_P 298 = [] ∧ am_rtag (am_re am_P 298) = 0 := ⟨rfl, rfl, rfl⟩
set_option maxRecDepth 100000 in
theorem am_k298_0 {e : ak_X3} {d : Nat} {ρ : List Nat} {h : ak_S} {Q : ak_S → Prop} {X : Nat → ak_S → Prop} (w :
  (h.1 110 132 ≤ 0 →
    Q h)
  ∧ (0 < h.1 110 132 →
    (0 ≤ h.1 110 105 →
      Q h)
    ∧ (h.1 110 105 < 0 →
      (0 ≤ am_w32 ((h.1 110 132) - 1) ∧ am_w32 ((h.1 110 132) - 1) < (370000 : Int)) ∧ (0 ≤ am_w32 ((h.1 110 132) - 1) ∧ am_w32 ((h.1 110 132) - 1) < (370000 : Int)) ∧ True ∧
        ((h.1 201 (am_w32 ((h.1 110 132) - 1)).toNat < 1 ∨ 10 < h.1 201 (am_w32 ((h.1 110 132) - 1)).toNat) → ak_MV e 1 d ρ 299 [am_r 110] ((am_up h.1 110 132 (am_w32 ((h.1 110 132) - 1))), h.2) (fun h1 =>
          ak_W0 e 1 d 298 ρ 0 [some (am_r 110), none, none] [] h1 (ak_qv Q X)) (fun _ _ => False)) ∧
        (h.1 201 (am_w32 ((h.1 110 132) - 1)).toNat = 1 → ak_MV e 1 d ρ 282 [am_r 110, am_i (h.1 202 (am_w32 ((h.1 110 132) - 1)).toNat)] ((am_up h.1 110 132 (am_w32 ((h.1 110 132) - 1))), h.2) (fun h2 =>
          ak_W0 e 1 d 298 ρ 0 [some (am_r 110), none, none] [] h2 (ak_qv Q X)) (fun _ _ => False)) ∧
        (h.1 201 (am_w32 ((h.1 110 132) - 1)).toNat = 1 + 1 → ak_MV e 1 d ρ 291 [am_r 110, am_i (h.1 202 (am_w32 ((h.1 110 132) - 1)).toNat)] ((am_up h.1 110 132 (am_w32 ((h.1 110 132) - 1))), h.2) (fun h3 =>
          ak_W0 e 1 d 298 ρ 0 [some (am_r 110), none, none] [] h3 (ak_qv Q X)) (fun _ _ => False)) ∧
        (h.1 201 (am_w32 ((h.1 110 132) - 1)).toNat = 1 + 1 + 1 → ak_MV e 1 d ρ 283 [am_r 110, am_i (h.1 202 (am_w32 ((h.1 110 132) - 1)).toNat)] ((am_up h.1 110 132 (am_w32 ((h.1 110 132) - 1))), h.2) (fun h4 =>
          ak_W0 e 1 d 298 ρ 0 [some (am_r 110), none, none] [] h4 (ak_qv Q X)) (fun _ _ => False)) ∧
        (h.1 201 (am_w32 ((h.1 110 132) - 1)).toNat = 1 + 1 + 1 + 1 → ak_MV e 1 d ρ 293 [am_r 110, am_i (h.1 202 (am_w32 ((h.1 110 132) - 1)).toNat)] ((am_up h.1 110 132 (am_w32 ((h.1 110 132) - 1))), h.2) (fun h5 =>
          ak_W0 e 1 d 298 ρ 0 [some (am_r 110), none, none] [] h5 (ak_qv Q X)) (fun _ _ => False)) ∧
        (h.1 201 (am_w32 ((h.1 110 132) - 1)).toNat = 1 + 1 + 1 + 1 + 1 → ak_W0 e 1 d 298 ρ 0 [some (am_r 110), none, none] [] ((am_up (am_up h.1 110 132 (am_w32 ((h.1 110 132) - 1))) 110 127 (am_w32 ((h.1 110 127) - 1))), h.2) (ak_qv Q X)) ∧
        (h.1 201 (am_w32 ((h.1 110 132) - 1)).toNat = 1 + 1 + 1 + 1 + 1 + 1 → (0 ≤ am_w32 ((h.1 110 127) - 1) ∧ am_w32 ((h.1 110 127) - 1) < (20000 : Int)) ∧ (0 ≤ am_w32 ((h.1 110 127) - 1) ∧ am_w32 ((h.1 110 127) - 1) < (20000 : Int)) ∧ ak_MI e 1 d ρ 292 [am_i (h.1 199 (am_w32 ((h.1 110 127) - 1)).toNat), am_l (h.2.1 200 (am_w32 ((h.1 110 127) - 1)).toNat)] ((am_up (am_up h.1 110 132 (am_w32 ((h.1 110 132) - 1))) 110 127 (am_w32 ((h.1 110 127) - 1))), h.2) (fun v7 h6 =>
          (v7 = 0 →
            ak_W0 e 1 d 298 ρ 0 [some (am_r 110), none, none] [] h6 (ak_qv Q X))
          ∧ (v7 ≠ 0 →
            ak_MV e 1 d ρ 266 [am_r 110, am_i 7, am_i (h.1 202 (am_w32 ((h.1 110 132) - 1)).toNat), am_i 0, am_i 0] h6 (fun h8 =>
              (0 ≤ h.1 202 (am_w32 ((h.1 110 132) - 1)).toNat ∧ h.1 202 (am_w32 ((h.1 110 132) - 1)).toNat < (18000 : Int)) ∧ ak_MV e 1 d ρ 266 [am_r 110, am_i 2, am_i (h8.1 116 (h.1 202 (am_w32 ((h.1 110 132) - 1)).toNat).toNat), am_i 0, am_i 0] h8 (fun h9 =>
                ak_W0 e 1 d 298 ρ 0 [some (am_r 110), none, none] [] h9 (ak_qv Q X)) (fun _ _ => False)) (fun _ _ => False))) (fun _ _ => False)) ∧
        (h.1 201 (am_w32 ((h.1 110 132) - 1)).toNat = 1 + 1 + 1 + 1 + 1 + 1 + 1 → ak_MV e 1 d ρ 267 [am_r 110] ((am_up h.1 110 132 (am_w32 ((h.1 110 132) - 1))), h.2) (fun h10 =>
          (h10.1 110 105 < 0 →
            (0 ≤ h.1 202 (am_w32 ((h.1 110 132) - 1)).toNat ∧ h.1 202 (am_w32 ((h.1 110 132) - 1)).toNat < (18000 : Int)) ∧ (0 ≤ h10.1 110 102 ∧ h10.1 110 102 < (564 : Int)) ∧ ak_MV e 1 d ρ 266 [am_r 110, am_i 6, am_i (h.1 202 (am_w32 ((h.1 110 132) - 1)).toNat), am_i 0, am_i 0] ((am_up h10.1 183 (h10.1 110 102).toNat (h10.1 120 (h.1 202 (am_w32 ((h.1 110 132) - 1)).toNat).toNat)), h10.2) (fun h11 =>
              (0 ≤ h.1 202 (am_w32 ((h.1 110 132) - 1)).toNat ∧ h.1 202 (am_w32 ((h.1 110 132) - 1)).toNat < (18000 : Int)) ∧ ak_MV e 1 d ρ 266 [am_r 110, am_i 1, am_i (h11.1 115 (h.1 202 (am_w32 ((h.1 110 132) - 1)).toNat).toNat), am_i 0, am_i 0] h11 (fun h12 =>
                ak_W0 e 1 d 298 ρ 0 [some (am_r 110), none, none] [] h12 (ak_qv Q X)) (fun _ _ => False)) (fun _ _ => False))
          ∧ (0 ≤ h10.1 110 105 →
            ak_W0 e 1 d 298 ρ 0 [some (am_r 110), none, none] [] h10 (ak_qv Q X))) (fun _ _ => False)) ∧
        (h.1 201 (am_w32 ((h.1 110 132) - 1)).toNat = 1 + 1 + 1 + 1 + 1 + 1 + 1 + 1 → ak_MV e 1 d ρ 273 [am_r 110, am_i (h.1 202 (am_w32 ((h.1 110 132) - 1)).toNat)] ((am_up h.1 110 132 (am_w32 ((h.1 110 132) - 1))), h.2) (fun h13 =>
          (0 ≤ h13.1 110 132 ∧ h13.1 110 132 < (370000 : Int)) ∧ ak_MV e 1 d ρ 265 [am_r 110, am_i 0, am_l 0] ((am_up h13.1 110 102 (h13.1 203 (h13.1 110 132).toNat)), h13.2) (fun h14 =>
            ak_W0 e 1 d 298 ρ 0 [some (am_r 110), none, none] [] h14 (ak_qv Q X)) (fun _ _ => False)) (fun _ _ => False)) ∧
        (h.1 201 (am_w32 ((h.1 110 132) - 1)).toNat = 1 + 1 + 1 + 1 + 1 + 1 + 1 + 1 + 1 → ak_MI e 1 d ρ 278 [am_r 110, am_i (h.1 202 (am_w32 ((h.1 110 132) - 1)).toNat)] ((am_up (am_up h.1 110 132 (am_w32 ((h.1 110 132) - 1))) 110 133 0), h.2) (fun v16 h15 =>
          ak_W0 e 1 d 298 ρ 0 [some (am_r 110), none, none] [] h15 (ak_qv Q X)) (fun _ _ => False)) ∧
        (h.1 201 (am_w32 ((h.1 110 132) - 1)).toNat = 1 + 1 + 1 + 1 + 1 + 1 + 1 + 1 + 1 + 1 → ak_MI e 1 d ρ 278 [am_r 110, am_i (h.1 202 (am_w32 ((h.1 110 132) - 1)).toNat)] ((am_up (am_up h.1 110 132 (am_w32 ((h.1 110 132) - 1))) 110 133 0), h.2) (fun v18 h17 =>
          ak_W0 e 1 d 298 ρ 0 [some (am_r 110), none, none] [] h17 (ak_qv Q X)) (fun _ _ => False)) ∧ True))) :
  ak_W0 e 1 d 298 ρ 0 [some (am_r 110), none, none] [] h (ak_qv Q X) := ak_k_ok am_cc298 400 [(0, [true, false, false])] w
theorem am_cc299 : am_co am_P 299 = am_lk am_rw299 ∧ am_hl am_P 299 = [] ∧ am_rtag (am_re am_P 299) = 0 := ⟨rfl, rfl, rfl⟩
set_option maxRecDepth 100000 in
theorem am_k299_0 {e : ak_X3} {d : Nat} {ρ : List Nat} {h : ak_S} {Q : ak_S → Prop} {X : Nat → ak_S → Prop} (w :
  (0 ≤ am_w32 ((h.1 110 139) - 1) ∧ am_w32 ((h.1 110 139) - 1) < (2000 : Int)) ∧ (0 ≤ am_w32 ((h.1 110 139) - 1) ∧ am_w32 ((h.1 110 139) - 1) < (2000 : Int)) ∧ (0 ≤ am_w32 ((h.1 110 139) - 1) ∧ am_w32 ((h.1 110 139) - 1) < (2000 : Int)) ∧ (0 ≤ am_w32 ((h.1 110 139) - 1) ∧ am_w32 ((h.1 110 139) - 1) < (2000 : Int)) ∧ (0 ≤ am_w32 ((h.1 110 139) - 1) ∧ am_w32 ((h.1 110 139) - 1) < (2000 : Int)) ∧ (0 ≤ am_w32 ((h.1 110 139) - 1) ∧ am_w32 ((h.1 110 139) - 1) < (2000 : Int)) ∧ (h.1 205 (am_w32 ((h.1 110 139) - 1)).toNat ≤ 0 →
    Q ((am_up (am_up (am_up (am_up (am_up (am_up h.1 110 139 (am_w32 ((h.1 110 139) - 1))) 110 133 (h.1 205 (am_w32 ((h.1 110 139) - 1)).toNat)) 110 134 (h.1 206 (am_w32 ((h.1 110 139) - 1)).toNat)) 110 135 (h.1 207 (am_w32 ((h.1 110 139) - 1)).toNat)) 110 137 (h.1 209 (am_w32 ((h.1 110 139) - 1)).toNat)) 110 138 (h.1 210 (am_w32 ((h.1 110 139) - 1)).toNat)), (am_up h.2.1 110 136 (h.2.1 208 (am_w32 ((h.1 110 139) - 1)).toNat)), h.2.2))
  ∧ (0 < h.1 205 (am_w32 ((h.1 110 139) - 1)).toNat →
    ak_MV e 1 d ρ 276 [am_r 110] ((am_up (am_up (am_up (am_up (am_up (am_up h.1 110 139 (am_w32 ((h.1 110 139) - 1))) 110 133 (h.1 205 (am_w32 ((h.1 110 139) - 1)).toNat)) 110 134 (h.1 206 (am_w32 ((h.1 110 139) - 1)).toNat)) 110 135 (h.1 207 (am_w32 ((h.1 110 139) - 1)).toNat)) 110 137 (h.1 209 (am_w32 ((h.1 110 139) - 1)).toNat)) 110 138 (h.1 210 (am_w32 ((h.1 110 139) - 1)).toNat)), (am_up h.2.1 110 136 (h.2.1 208 (am_w32 ((h.1 110 139) - 1)).toNat)), h.2.2) (fun h1 =>
      Q h1) (fun _ _ => False))) :
  ak_W0 e 1 d 299 ρ 0 [some (am_r 110)] [] h (ak_qv Q X) := ak_k_ok am_cc299 400 [] w
theorem am_cc300 : am_co am_P 300 = am_lk am_rw300 ∧ am_hl am_P 300 = [] ∧ am_rtag (am_re am_P 300) = 0 := ⟨rfl, rfl, rfl⟩
set_option maxRecDepth 100000 in
theorem am_k300_0 {e : ak_X3} {d : Nat} {ρ : List Nat} {h : ak_S} {Q : ak_S → Prop} {X : Nat → ak_S → Prop} {x1 : Int} (w :
  (x1 < 0 →
    ((1 : Int) ≤ 0 →
      ak_MV e 1 d ρ 252 [am_r 110] ((am_up (am_up h.1 110 0 1) 110 71 x1), h.2) (fun h1 =>
        Q h1) (fun _ _ => False))
    ∧ (0 < (1 : Int) →
      Q ((am_up h.1 110 0 1), h.2)))
  ∧ (0 ≤ x1 →
    (x1 ≤ 2 →
      ((0 : Int) ≤ 0 →
        ak_MV e 1 d ρ 252 [am_r 110] ((am_up (am_up h.1 110 0 0) 110 71 x1), h.2) (fun h2 =>
          Q h2) (fun _ _ => False))
      ∧ (0 < (0 : Int) →
        Q ((am_up h.1 110 0 0), h.2)))
    ∧ (2 < x1 →
      ((1 : Int) ≤ 0 →
        ak_MV e 1 d ρ 252 [am_r 110] ((am_up (am_up h.1 110 0 1) 110 71 x1), h.2) (fun h3 =>
          Q h3) (fun _ _ => False))
      ∧ (0 < (1 : Int) →
        Q ((am_up h.1 110 0 1), h.2))))) :
  ak_W0 e 1 d 300 ρ 0 [some (am_r 110), some (am_i x1)] [] h (ak_qv Q X) := ak_k_ok am_cc300 400 [] w
theorem am_cc301 : am_co am_P 301 = am_lk am_rw301 ∧ am_hl am_P 301 = [] ∧ am_rtag (am_re am_P 301) = 0 := ⟨rfl, rfl, rfl⟩
set_option maxRecDepth 100000 in
theorem am_k301_0 {e : ak_X3} {d : Nat} {ρ : List Nat} {h : ak_S} {Q : ak_S → Prop} {X : Nat → ak_S → Prop} (w :
  ak_MV e 1 d ρ 252 [am_r 110] ((am_up h.1 110 0 0), h.2) (fun h1 =>
    Q h1) (fun _ _ => False)) :
  ak_W0 e 1 d 301 ρ 0 [some (am_r 110)] [] h (ak_qv Q X) := ak_k_ok am_cc301 400 [] w
theorem am_cc302 : am_co am_P 302 = am_lk am_rw302 ∧ am_hl am_P 302 = [] ∧ am_rtag (am_re am_P 302) = 1 := ⟨rfl, rfl, rfl⟩
set_option maxRecDepth 100000 in
theorem am_k302_0 {e : ak_X3} {d : Nat} {ρ : List Nat} {h : ak_S} {Q : Int → ak_S → Prop} {X : Nat → ak_S → Prop} {x1 x2 x4 : Int} (w :
  (h.1 110 4 ≠ 0 →
    (x1 < 0 →
      ak_MI e 1 d ρ 198 [am_r 110, am_i 2] h (fun v2 h1 =>
        Q v2 h1) (fun _ _ => False))
    ∧ (0 ≤ x1 →
      (0 ≤ h.1 110 3 ∧ h.1 110 3 < (2 : Int)) ∧ (h.1 122 (h.1 110 3).toNat ≤ x1 →
        ak_MI e 1 d ρ 198 [am_r 110, am_i 2] h (fun v4 h3 =>
          Q v4 h3) (fun _ _ => False))
      ∧ (x1 < h.1 122 (h.1 110 3).toNat →
        (0 ≤ am_w32 ((am_w32 (40 * (h.1 110 3))) + x1) ∧ am_w32 ((am_w32 (40 * (h.1 110 3))) + x1) < (80 : Int)) ∧ (h.1 126 (am_w32 ((am_w32 (40 * (h.1 110 3))) + x1)).toNat = 2 →
          ak_MV e 1 d ρ 264 [am_r 110] ((am_up h.1 110 0 0), h.2) (fun h5 =>
            ak_MI e 1 d ρ 275 [am_r 110, am_i x1, am_i 2, am_l 0, am_i 0, am_i ((-1))] ((am_up (am_up (am_up (am_up (am_up (am_up h5.1 110 127 0) 110 132 0) 110 139 0) 110 103 0) 110 102 ((-1))) 110 105 ((-1))), h5.2) (fun v7 h6 =>
              ak_MV e 1 d ρ 274 [am_r 110, am_i v7, am_i 0, am_i 1, am_l x2] h6 (fun h8 =>
                ak_MV e 1 d ρ 274 [am_r 110, am_i v7, am_i 1, am_i 1, am_l x4] h8 (fun h9 =>
                  ak_MV e 1 d ρ 298 [am_r 110] h9 (fun h10 =>
                    (0 ≤ h10.1 110 105 →
                      ak_W0 e 1 d 302 ρ 139 [some (am_r 110), none, none, none, none, none, none, none] [] h10 (ak_qi Q X))
                    ∧ (h10.1 110 105 < 0 →
                      ak_W0 e 1 d 302 ρ 139 [some (am_r 110), none, none, none, none, none, none, none] [] ((am_up h10.1 110 105 0), h10.2) (ak_qi Q X))) (fun _ _ => False)) (fun _ _ => False)) (fun _ _ => False)) (fun _ _ => False)) (fun _ _ => False))
        ∧ (h.1 126 (am_w32 ((am_w32 (40 * (h.1 110 3))) + x1)).toNat ≠ 2 →
          ak_MI e 1 d ρ 198 [am_r 110, am_i 2] h (fun v12 h11 =>
            Q v12 h11) (fun _ _ => False)))))
  ∧ (h.1 110 4 = 0 →
    ak_MI e 1 d ρ 198 [am_r 110, am_i 1] h (fun v14 h13 =>
      Q v14 h13) (fun _ _ => False))) :
  ak_W0 e 1 d 302 ρ 0 [some (am_r 110), some (am_i x1), some (am_l x2), none, some (am_l x4), none, none, none] [] h (ak_qi Q X) := ak_k_ok am_cc302 400 [(139, [true, false, false, false, false, false, false, false]), (188, [true, false, false, false, false, false, false, true])] w
set_option maxRecDepth 100000 in
theorem am_k302_139 {e : ak_X3} {d : Nat} {ρ : List Nat} {h : ak_S} {Q : Int → ak_S → Prop} {X : Nat → ak_S → Prop} (w :
  (h.1 110 105 ≠ 0 →
    (h.1 110 105 ≠ 1 →
      ak_W0 e 1 d 302 ρ 188 [some (am_r 110), none, none, none, none, none, none, some (am_i 0)] [] h (ak_qi Q X))
    ∧ (h.1 110 105 = 1 →
      ak_W0 e 1 d 302 ρ 188 [some (am_r 110), none, none, none, none, none, none, some (am_i 0)] [] ((am_up h.1 110 108 (h.1 110 138)), h.2) (ak_qi Q X)))
  ∧ (h.1 110 105 = 0 →
    (0 ≤ (0 : Int) ∧ (0 : Int) < (20000 : Int)) ∧ (0 ≤ (0 : Int) ∧ (0 : Int) < (20000 : Int)) ∧ ak_W0 e 1 d 302 ρ 188 [some (am_r 110), none, none, none, none, none, none, some (am_i 0)] [] ((am_up h.1 110 106 (h.1 199 0)), (am_up h.2.1 110 107 (h.2.1 200 0)), h.2.2) (ak_qi Q X))) :
  ak_W0 e 1 d 302 ρ 139 [some (am_r 110), none, none, none, none, none, none, none] [] h (ak_qi Q X) := ak_k_ok am_cc302 400 [(139, [true, false, false, false, false, false, false, false]), (188, [true, false, false, false, false, false, false, true])] w
set_option maxRecDepth 100000 in
theorem am_k302_188 {e : ak_X3} {d : Nat} {ρ : List Nat} {h : ak_S} {Q : Int → ak_S → Prop} {X : Nat → ak_S → Prop} {x7 : Int} (w :
  (564 ≤ x7 →
    Q (h.1 110 105) h)
  ∧ (x7 < 564 →
    (0 ≤ x7 ∧ x7 < (564 : Int)) ∧ (h.1 173 x7.toNat = 0 →
      ak_W0 e 1 d 302 ρ 188 [some (am_r 110), none, none, none, none, none, none, some (am_i (am_w32 (x7 + 1)))] [] h (ak_qi Q X))
    ∧ (h.1 173 x7.toNat ≠ 0 →
      (0 ≤ x7 ∧ x7 < (564 : Int)) ∧ (h.1 175 x7.toNat = 0 →
        ak_W0 e 1 d 302 ρ 188 [some (am_r 110), none, none, none, none, none, none, some (am_i (am_w32 (x7 + 1)))] [] h (ak_qi Q X))
      ∧ (h.1 175 x7.toNat ≠ 0 →
        ak_MV e 1 d ρ 273 [am_r 110, am_i x7] h (fun h1 =>
          ak_W0 e 1 d 302 ρ 188 [some (am_r 110), none, none, none, none, none, none, some (am_i (am_w32 (x7 + 1)))] [] h1 (ak_qi Q X)) (fun _ _ => False))))) :
  ak_W0 e 1 d 302 ρ 188 [some (am_r 110), none, none, none, none, none, none, some (am_i x7)] [] h (ak_qi Q X) := ak_k_ok am_cc302 400 [(139, [true, false, false, false, false, false, false, false]), (188, [true, false, false, false, false, false, false, true])] w
theorem am_cc303 : am_co am_P 303 = am_lk am_rw303 ∧ am_hl am_P 303 = [] ∧ am_rtag (am_re am_P 303) = 3 := ⟨rfl, rfl, rfl⟩
set_option maxRecDepth 100000 in
theorem am_k303_0 {e : ak_X3} {d : Nat} {ρ : List Nat} {h : ak_S} {Q : Int → ak_S → Prop} {X : Nat → ak_S → Prop} {x1 : Int} (w :
  (h.1 110 4 ≠ 0 →
    (x1 < 0 →
      ak_MI e 1 d ρ 198 [am_r 110, am_i 2] h (fun v2 h1 =>
        Q v2 h1) (fun _ _ => False))
    ∧ (0 ≤ x1 →
      (x1 ≤ 6 →
        (x1 ≠ 0 →
          (x1 ≠ 1 →
            (x1 ≠ 2 →
              (x1 ≠ 3 →
                (x1 ≠ 4 →
                  (x1 ≠ 5 →
                    Q (h.1 110 111) ((am_up h.1 110 0 0), h.2))
                  ∧ (x1 = 5 →
                    Q (h.1 110 110) ((am_up h.1 110 0 0), h.2)))
                ∧ (x1 = 4 →
                  Q (h.1 110 109) ((am_up h.1 110 0 0), h.2)))
              ∧ (x1 = 3 →
                Q (h.1 110 108) ((am_up h.1 110 0 0), h.2)))
            ∧ (x1 = 2 →
              Q (h.1 110 104) ((am_up h.1 110 0 0), h.2)))
          ∧ (x1 = 1 →
            Q (h.2.1 110 107) ((am_up h.1 110 0 0), h.2)))
        ∧ (x1 = 0 →
          Q (h.1 110 106) ((am_up h.1 110 0 0), h.2)))
      ∧ (6 < x1 →
        ak_MI e 1 d ρ 198 [am_r 110, am_i 2] h (fun v4 h3 =>
          Q v4 h3) (fun _ _ => False))))
  ∧ (h.1 110 4 = 0 →
    ak_MI e 1 d ρ 198 [am_r 110, am_i 1] h (fun v6 h5 =>
      Q v6 h5) (fun _ _ => False))) :
  ak_W0 e 1 d 303 ρ 0 [some (am_r 110), some (am_i x1)] [] h (ak_qj Q X) := ak_k_ok am_cc303 400 [] w
theorem am_cc304 : am_co am_P 304 = am_lk am_rw304 ∧ am_hl am_P 304 = [] ∧ am_rtag (am_re am_P 304) = 3 := ⟨rfl, rfl, rfl⟩
set_option maxRecDepth 100000 in
theorem am_k304_0 {e : ak_X3} {d : Nat} {ρ : List Nat} {h : ak_S} {Q : Int → ak_S → Prop} {X : Nat → ak_S → Prop} {x1 x2 : Int} (w :
  (h.1 110 4 ≠ 0 →
    (x1 < 0 →
      ak_MI e 1 d ρ 198 [am_r 110, am_i 2] h (fun v2 h1 =>
        Q v2 h1) (fun _ _ => False))
    ∧ (0 ≤ x1 →
      (h.1 110 110 ≤ x1 →
        ak_MI e 1 d ρ 198 [am_r 110, am_i 2] h (fun v4 h3 =>
          Q v4 h3) (fun _ _ => False))
      ∧ (x1 < h.1 110 110 →
        (x1 < 300 →
          (x2 < 0 →
            ak_MI e 1 d ρ 198 [am_r 110, am_i 3] h (fun v6 h5 =>
              Q v6 h5) (fun _ _ => False))
          ∧ (0 ≤ x2 →
            (x2 ≤ 1 →
              (x2 ≠ 0 →
                (0 ≤ x1 ∧ x1 < (300 : Int)) ∧ Q (h.2.1 188 x1.toNat) ((am_up h.1 110 0 0), h.2))
              ∧ (x2 = 0 →
                (0 ≤ x1 ∧ x1 < (300 : Int)) ∧ Q (h.1 187 x1.toNat) ((am_up h.1 110 0 0), h.2)))
            ∧ (1 < x2 →
              ak_MI e 1 d ρ 198 [am_r 110, am_i 3] h (fun v8 h7 =>
                Q v8 h7) (fun _ _ => False))))
        ∧ (300 ≤ x1 →
          ak_MI e 1 d ρ 198 [am_r 110, am_i 2] h (fun v10 h9 =>
            Q v10 h9) (fun _ _ => False)))))
  ∧ (h.1 110 4 = 0 →
    ak_MI e 1 d ρ 198 [am_r 110, am_i 1] h (fun v12 h11 =>
      Q v12 h11) (fun _ _ => False))) :
  ak_W0 e 1 d 304 ρ 0 [some (am_r 110), some (am_i x1), some (am_i x2)] [] h (ak_qj Q X) := ak_k_ok am_cc304 400 [] w
theorem am_cc305 : am_co am_P 305 = am_lk am_rw305 ∧ am_hl am_P 305 = [] ∧ am_rtag (am_re am_P 305) = 3 := ⟨rfl, rfl, rfl⟩
set_option maxRecDepth 100000 in
theorem am_k305_0 {e : ak_X3} {d : Nat} {ρ : List Nat} {h : ak_S} {Q : Int → ak_S → Prop} {X : Nat → ak_S → Prop} {x1 x2 : Int} (w :
  (h.1 110 4 ≠ 0 →
    (x1 < 0 →
      ak_MI e 1 d ρ 198 [am_r 110, am_i 2] h (fun v2 h1 =>
        Q v2 h1) (fun _ _ => False))
    ∧ (0 ≤ x1 →
      (h.1 110 111 ≤ x1 →
        ak_MI e 1 d ρ 198 [am_r 110, am_i 2] h (fun v4 h3 =>
          Q v4 h3) (fun _ _ => False))
      ∧ (x1 < h.1 110 111 →
        (x1 < 300 →
          (x2 < 0 →
            ak_MI e 1 d ρ 198 [am_r 110, am_i 3] h (fun v6 h5 =>
              Q v6 h5) (fun _ _ => False))
          ∧ (0 ≤ x2 →
            (x2 ≤ 3 →
              (x2 ≠ 0 →
                (x2 ≠ 1 →
                  (x2 ≠ 2 →
                    (0 ≤ x1 ∧ x1 < (300 : Int)) ∧ Q (h.1 192 x1.toNat) ((am_up h.1 110 0 0), h.2))
                  ∧ (x2 = 2 →
                    (0 ≤ x1 ∧ x1 < (300 : Int)) ∧ Q (h.2.1 191 x1.toNat) ((am_up h.1 110 0 0), h.2)))
                ∧ (x2 = 1 →
                  (0 ≤ x1 ∧ x1 < (300 : Int)) ∧ Q (h.1 190 x1.toNat) ((am_up h.1 110 0 0), h.2)))
              ∧ (x2 = 0 →
                (0 ≤ x1 ∧ x1 < (300 : Int)) ∧ Q (h.1 189 x1.toNat) ((am_up h.1 110 0 0), h.2)))
            ∧ (3 < x2 →
              ak_MI e 1 d ρ 198 [am_r 110, am_i 3] h (fun v8 h7 =>
                Q v8 h7) (fun _ _ => False))))
        ∧ (300 ≤ x1 →
          ak_MI e 1 d ρ 198 [am_r 110, am_i 2] h (fun v10 h9 =>
            Q v10 h9) (fun _ _ => False)))))
  ∧ (h.1 110 4 = 0 →
    ak_MI e 1 d ρ 198 [am_r 110, am_i 1] h (fun v12 h11 =>
      Q v12 h11) (fun _ _ => False))) :
  ak_W0 e 1 d 305 ρ 0 [some (am_r 110), some (am_i x1), some (am_i x2)] [] h (ak_qj Q X) := ak_k_ok am_cc305 400 [] w
theorem am_cc306 : am_co am_P 306 = am_lk am_rw306 ∧ am_hl am_P 306 = [] ∧ am_rtag (am_re am_P 306) = 3 := ⟨rfl, rfl, rfl⟩
set_option maxRecDepth 100000 in
theorem am_k306_0 {e : ak_X3} {d : Nat} {ρ : List Nat} {h : ak_S} {Q : Int → ak_S → Prop} {X : Nat → ak_S → Prop} {x1 x2 : Int} (w :
  (h.1 110 4 ≠ 0 →
    (x1 < 0 →
      ak_MI e 1 d ρ 198 [am_r 110, am_i 2] h (fun v2 h1 =>
        Q v2 h1) (fun _ _ => False))
    ∧ (0 ≤ x1 →
      (h.1 110 109 ≤ x1 →
        ak_MI e 1 d ρ 198 [am_r 110, am_i 2] h (fun v4 h3 =>
          Q v4 h3) (fun _ _ => False))
      ∧ (x1 < h.1 110 109 →
        (x1 < 64 →
          (x2 < 0 →
            ak_MI e 1 d ρ 198 [am_r 110, am_i 3] h (fun v6 h5 =>
              Q v6 h5) (fun _ _ => False))
          ∧ (0 ≤ x2 →
            (x2 ≤ 5 →
              (x2 ≠ 0 →
                (x2 ≠ 1 →
                  (x2 ≠ 2 →
                    (x2 ≠ 3 →
                      (x2 ≠ 4 →
                        (0 ≤ x1 ∧ x1 < (64 : Int)) ∧ Q (h.1 198 x1.toNat) ((am_up h.1 110 0 0), h.2))
                      ∧ (x2 = 4 →
                        (0 ≤ x1 ∧ x1 < (64 : Int)) ∧ Q (h.1 197 x1.toNat) ((am_up h.1 110 0 0), h.2)))
                    ∧ (x2 = 3 →
                      (0 ≤ x1 ∧ x1 < (64 : Int)) ∧ Q (h.1 196 x1.toNat) ((am_up h.1 110 0 0), h.2)))
                  ∧ (x2 = 2 →
                    (0 ≤ x1 ∧ x1 < (64 : Int)) ∧ Q (h.2.1 195 x1.toNat) ((am_up h.1 110 0 0), h.2)))
                ∧ (x2 = 1 →
                  (0 ≤ x1 ∧ x1 < (64 : Int)) ∧ Q (h.1 194 x1.toNat) ((am_up h.1 110 0 0), h.2)))
              ∧ (x2 = 0 →
                (0 ≤ x1 ∧ x1 < (64 : Int)) ∧ Q (h.1 193 x1.toNat) ((am_up h.1 110 0 0), h.2)))
            ∧ (5 < x2 →
              ak_MI e 1 d ρ 198 [am_r 110, am_i 3] h (fun v8 h7 =>
                Q v8 h7) (fun _ _ => False))))
        ∧ (64 ≤ x1 →
          ak_MI e 1 d ρ 198 [am_r 110, am_i 2] h (fun v10 h9 =>
            Q v10 h9) (fun _ _ => False)))))
  ∧ (h.1 110 4 = 0 →
    ak_MI e 1 d ρ 198 [am_r 110, am_i 1] h (fun v12 h11 =>
      Q v12 h11) (fun _ _ => False))) :
  ak_W0 e 1 d 306 ρ 0 [some (am_r 110), some (am_i x1), some (am_i x2)] [] h (ak_qj Q X) := ak_k_ok am_cc306 400 [] w
theorem am_cc307 : am_co am_P 307 = am_lk am_rw307 ∧ am_hl am_P 307 = [] ∧ am_rtag (am_re am_P 307) = 1 := ⟨rfl, rfl, rfl⟩
set_option maxRecDepth 100000 in
theorem am_k307_0 {e : ak_X3} {d : Nat} {ρ : List Nat} {h : ak_S} {Q : Int → ak_S → Prop} {X : Nat → ak_S → Prop} {x1 : Int} (w :
  (h.1 110 4 ≠ 0 →
    (x1 < 0 →
      ak_MI e 1 d ρ 198 [am_r 110, am_i 2] h (fun v2 h1 =>
        Q v2 h1) (fun _ _ => False))
    ∧ (0 ≤ x1 →
      (0 ≤ h.1 110 3 ∧ h.1 110 3 < (2 : Int)) ∧ (x1 < h.1 122 (h.1 110 3).toNat →
        (0 ≤ x1 ∧ x1 < (40 : Int)) ∧ Q (h.1 186 x1.toNat) ((am_up h.1 110 0 0), h.2))
      ∧ (h.1 122 (h.1 110 3).toNat ≤ x1 →
        ak_MI e 1 d ρ 198 [am_r 110, am_i 2] h (fun v4 h3 =>
          Q v4 h3) (fun _ _ => False))))
  ∧ (h.1 110 4 = 0 →
    ak_MI e 1 d ρ 198 [am_r 110, am_i 1] h (fun v6 h5 =>
      Q v6 h5) (fun _ _ => False))) :
  ak_W0 e 1 d 307 ρ 0 [some (am_r 110), some (am_i x1)] [] h (ak_qi Q X) := ak_k_ok am_cc307 400 [] w
theorem am_cc308 : am_co am_P 308 = am_lk am_rw308 ∧ am_hl am_P 308 = [] ∧ am_rtag (am_re am_P 308) = 2 := ⟨rfl, rfl, rfl⟩
set_option maxRecDepth 100000 in
theorem am_k308_0 {e : ak_X3} {d : Nat} {ρ : List Nat} {h : ak_S} {Q : Int → ak_S → Prop} {X : Nat → ak_S → Prop} {x1 : Int} (w :
  (x1 < 0 →
    ((0 : Int) = 0 ∨ (0 : Int) = 1) ∧ Q 0 h)
  ∧ (0 ≤ x1 →
    (h.1 110 46 ≤ x1 →
      ((0 : Int) = 0 ∨ (0 : Int) = 1) ∧ Q 0 h)
    ∧ (x1 < h.1 110 46 →
      ((1 : Int) = 0 ∨ (1 : Int) = 1) ∧ Q 1 h))) :
  ak_W0 e 1 d 308 ρ 0 [some (am_r 110), some (am_i x1)] [] h (ak_qi Q X) := ak_k_ok am_cc308 400 [] w
theorem am_cc309 : am_co am_P 309 = am_lk am_rw309 ∧ am_hl am_P 309 = [] ∧ am_rtag (am_re am_P 309) = 2 := ⟨rfl, rfl, rfl⟩
set_option maxRecDepth 100000 in
theorem am_k309_0 {e : ak_X3} {d : Nat} {ρ : List Nat} {h : ak_S} {Q : Int → ak_S → Prop} {X : Nat → ak_S → Prop} {x1 : Int} (w :
  (x1 < 0 →
    ((0 : Int) = 0 ∨ (0 : Int) = 1) ∧ Q 0 h)
  ∧ (0 ≤ x1 →
    (0 ≤ h.1 110 3 ∧ h.1 110 3 < (2 : Int)) ∧ (h.1 131 (h.1 110 3).toNat ≤ x1 →
      ((0 : Int) = 0 ∨ (0 : Int) = 1) ∧ Q 0 h)
    ∧ (x1 < h.1 131 (h.1 110 3).toNat →
      ((1 : Int) = 0 ∨ (1 : Int) = 1) ∧ Q 1 h))) :
  ak_W0 e 1 d 309 ρ 0 [some (am_r 110), some (am_i x1)] [] h (ak_qi Q X) := ak_k_ok am_cc309 400 [] w
theorem am_cc310 : am_co am_P 310 = am_lk am_rw310 ∧ am_hl am_P 310 = [] ∧ am_rtag (am_re am_P 310) = 1 := ⟨rfl, rfl, rfl⟩
set_option maxRecDepth 100000 in
theorem am_k310_0 {e : ak_X3} {d : Nat} {ρ : List Nat} {h : ak_S} {Q : Int → ak_S → Prop} {X : Nat → ak_S → Prop} {x1 x2 x3 x4 : Int} (w :
  (h.1 110 4 ≠ 0 →
    (x2 < 0 →
      ak_MI e 1 d ρ 198 [am_r 110, am_i 2] h (fun v2 h1 =>
        Q v2 h1) (fun _ _ => False))
    ∧ (0 ≤ x2 →
      (x2 ≤ 4 →
        ak_MI e 1 d ρ 308 [am_r 110, am_i x1] h (fun v4 h3 =>
          (v4 = 0 →
            ak_W0 e 1 d 310 ρ 93 [some (am_r 110), some (am_i x1), some (am_i x2), some (am_i x3), some (am_l x4), none, none] [am_i 0] h3 (ak_qi Q X))
          ∧ (v4 ≠ 0 →
            (x2 ≤ 2 →
              ak_MI e 1 d ρ 309 [am_r 110, am_i x3] h3 (fun v6 h5 =>
                (v6 = 0 →
                  ak_W0 e 1 d 310 ρ 93 [some (am_r 110), some (am_i x1), some (am_i x2), some (am_i x3), some (am_l x4), none, none] [am_i 0] h5 (ak_qi Q X))
                ∧ (v6 ≠ 0 →
                  ak_W0 e 1 d 310 ρ 60 [some (am_r 110), some (am_i x1), some (am_i x2), some (am_i x3), some (am_l x4), none, none] [] h5 (ak_qi Q X))) (fun _ _ => False))
            ∧ (2 < x2 →
              ak_MI e 1 d ρ 308 [am_r 110, am_i x3] h3 (fun v8 h7 =>
                (v8 = 0 →
                  ak_W0 e 1 d 310 ρ 93 [some (am_r 110), some (am_i x1), some (am_i x2), some (am_i x3), some (am_l x4), none, none] [am_i 0] h7 (ak_qi Q X))
                ∧ (v8 ≠ 0 →
                  ak_W0 e 1 d 310 ρ 60 [some (am_r 110), some (am_i x1), some (am_i x2), some (am_i x3), some (am_l x4), none, none] [] h7 (ak_qi Q X))) (fun _ _ => False)))) (fun _ _ => False))
      ∧ (4 < x2 →
        ak_MI e 1 d ρ 198 [am_r 110, am_i 2] h (fun v10 h9 =>
          Q v10 h9) (fun _ _ => False))))
  ∧ (h.1 110 4 = 0 →
    ak_MI e 1 d ρ 198 [am_r 110, am_i 1] h (fun v12 h11 =>
      Q v12 h11) (fun _ _ => False))) :
  ak_W0 e 1 d 310 ρ 0 [some (am_r 110), some (am_i x1), some (am_i x2), some (am_i x3), some (am_l x4), none, none] [] h (ak_qi Q X) := ak_k_ok am_cc310 400 [(60, [true, true, true, true, true, false, false]), (93, [true, true, true, true, true, false, false])] w
set_option maxRecDepth 100000 in
theorem am_k310_60 {e : ak_X3} {d : Nat} {ρ : List Nat} {h : ak_S} {Q : Int → ak_S → Prop} {X : Nat → ak_S → Prop} {x1 x2 x3 x4 : Int} (w :
  (x2 ≠ 1 →
    ak_W0 e 1 d 310 ρ 93 [some (am_r 110), some (am_i x1), some (am_i x2), some (am_i x3), some (am_l x4), none, none] [am_i 1] h (ak_qi Q X))
  ∧ (x2 = 1 →
    (am_lsign x4 0 < 0 →
      ak_W0 e 1 d 310 ρ 93 [some (am_r 110), some (am_i x1), some (am_i x2), some (am_i x3), some (am_l x4), none, none] [am_i 0] h (ak_qi Q X))
    ∧ (0 ≤ am_lsign x4 0 →
      (0 ≤ h.1 110 3 ∧ h.1 110 3 < (2 : Int)) ∧ (0 ≤ am_lsign x4 (h.1 122 (h.1 110 3).toNat) →
        ak_W0 e 1 d 310 ρ 93 [some (am_r 110), some (am_i x1), some (am_i x2), some (am_i x3), some (am_l x4), none, none] [am_i 0] h (ak_qi Q X))
      ∧ (am_lsign x4 (h.1 122 (h.1 110 3).toNat) < 0 →
        ak_W0 e 1 d 310 ρ 93 [some (am_r 110), some (am_i x1), some (am_i x2), some (am_i x3), some (am_l x4), none, none] [am_i 1] h (ak_qi Q X))))) :
  ak_W0 e 1 d 310 ρ 60 [some (am_r 110), some (am_i x1), some (am_i x2), some (am_i x3), some (am_l x4), none, none] [] h (ak_qi Q X) := ak_k_ok am_cc310 400 [(60, [true, true, true, true, true, false, false]), (93, [true, true, true, true, true, false, false])] w
set_option maxRecDepth 100000 in
theorem am_k310_93 {e : ak_X3} {d : Nat} {ρ : List Nat} {h : ak_S} {Q : Int → ak_S → Prop} {X : Nat → ak_S → Prop} {x1 x2 x3 x4 y0 : Int} (w :
  (y0 ≠ 0 →
    (x2 ≠ 0 →
      (2 ≤ x2 →
        ak_MI e 1 d ρ 297 [am_r 110, am_i x1, am_i x2, am_i x3, am_i 0, am_l 0] ((am_up h.1 110 0 0), h.2) (fun v2 h1 =>
          Q v2 h1) (fun _ _ => False))
      ∧ (x2 < 2 →
        ak_MI e 1 d ρ 297 [am_r 110, am_i x1, am_i x2, am_i x3, am_i 0, am_l x4] ((am_up h.1 110 0 0), h.2) (fun v4 h3 =>
          Q v4 h3) (fun _ _ => False)))
    ∧ (x2 = 0 →
      (2 ≤ x2 →
        ak_MI e 1 d ρ 297 [am_r 110, am_i x1, am_i x2, am_i x3, am_i 1, am_l 0] ((am_up h.1 110 0 0), h.2) (fun v6 h5 =>
          Q v6 h5) (fun _ _ => False))
      ∧ (x2 < 2 →
        ak_MI e 1 d ρ 297 [am_r 110, am_i x1, am_i x2, am_i x3, am_i 1, am_l x4] ((am_up h.1 110 0 0), h.2) (fun v8 h7 =>
          Q v8 h7) (fun _ _ => False))))
  ∧ (y0 = 0 →
    ak_MI e 1 d ρ 198 [am_r 110, am_i 3] h (fun v10 h9 =>
      Q v10 h9) (fun _ _ => False))) :
  ak_W0 e 1 d 310 ρ 93 [some (am_r 110), some (am_i x1), some (am_i x2), some (am_i x3), some (am_l x4), none, none] [am_i y0] h (ak_qi Q X) := ak_k_ok am_cc310 400 [(60, [true, true, true, true, true, false, false]), (93, [true, true, true, true, true, false, false])] w
theorem am_cc311 : am_co am_P 311 = am_lk am_rw311 ∧ am_hl am_P 311 = [] ∧ am_rtag (am_re am_P 311) = 1 := ⟨rfl, rfl, rfl⟩
set_option maxRecDepth 100000 in
theorem am_k311_0 {e : ak_X3} {d : Nat} {ρ : List Nat} {h : ak_S} {Q : Int → ak_S → Prop} {X : Nat → ak_S → Prop} {x1 : Int} (w :
  (h.1 110 4 ≠ 0 →
    (x1 < 0 →
      ak_MI e 1 d ρ 198 [am_r 110, am_i 2] h (fun v2 h1 =>
        Q v2 h1) (fun _ _ => False))
    ∧ (0 ≤ x1 →
      (x1 ≤ 8 →
        True ∧
          ((x1 < 0 ∨ 7 < x1) → Q (h.1 110 71) ((am_up h.1 110 0 0), h.2)) ∧
          (x1 = 0 → (0 ≤ h.1 110 3 ∧ h.1 110 3 < (2 : Int)) ∧ Q (h.1 122 (h.1 110 3).toNat) ((am_up h.1 110 0 0), h.2)) ∧
          (x1 = 0 + 1 → (0 ≤ h.1 110 3 ∧ h.1 110 3 < (2 : Int)) ∧ Q (h.1 131 (h.1 110 3).toNat) ((am_up h.1 110 0 0), h.2)) ∧
          (x1 = 0 + 1 + 1 → (0 ≤ h.1 110 3 ∧ h.1 110 3 < (2 : Int)) ∧ Q (h.1 127 (h.1 110 3).toNat) ((am_up h.1 110 0 0), h.2)) ∧
          (x1 = 0 + 1 + 1 + 1 → (0 ≤ h.1 110 3 ∧ h.1 110 3 < (2 : Int)) ∧ Q (h.1 134 (h.1 110 3).toNat) ((am_up h.1 110 0 0), h.2)) ∧
          (x1 = 0 + 1 + 1 + 1 + 1 → Q (h.1 110 46) ((am_up h.1 110 0 0), h.2)) ∧
          (x1 = 0 + 1 + 1 + 1 + 1 + 1 → Q (h.1 110 53) ((am_up h.1 110 0 0), h.2)) ∧
          (x1 = 0 + 1 + 1 + 1 + 1 + 1 + 1 → Q (h.1 110 57) ((am_up h.1 110 0 0), h.2)) ∧
          (x1 = 0 + 1 + 1 + 1 + 1 + 1 + 1 + 1 → Q (h.1 110 78) ((am_up h.1 110 0 0), h.2)) ∧ True)
      ∧ (8 < x1 →
        ak_MI e 1 d ρ 198 [am_r 110, am_i 2] h (fun v4 h3 =>
          Q v4 h3) (fun _ _ => False))))
  ∧ (h.1 110 4 = 0 →
    ak_MI e 1 d ρ 198 [am_r 110, am_i 1] h (fun v6 h5 =>
      Q v6 h5) (fun _ _ => False))) :
  ak_W0 e 1 d 311 ρ 0 [some (am_r 110), some (am_i x1)] [] h (ak_qi Q X) := ak_k_ok am_cc311 400 [] w
theorem am_cc312 : am_co am_P 312 = am_lk am_rw312 ∧ am_hl am_P 312 = [] ∧ am_rtag (am_re am_P 312) = 1 := ⟨rfl, rfl, rfl⟩
set_option maxRecDepth 100000 in
theorem am_k312_0 {e : ak_X3} {d : Nat} {ρ : List Nat} {h : ak_S} {Q : Int → ak_S → Prop} {X : Nat → ak_S → Prop} {x1 x2 : Int} (w :
  (h.1 110 4 ≠ 0 →
    ak_MI e 1 d ρ 309 [am_r 110, am_i x1] h (fun v2 h1 =>
      (v2 ≠ 0 →
        (x1 ≠ 0 →
          (x2 < 0 →
            Q 0 ((am_up h1.1 110 0 0), h1.2))
          ∧ (0 ≤ x2 →
            (0 ≤ am_w32 ((am_w32 (100 * (h1.1 110 3))) + x1) ∧ am_w32 ((am_w32 (100 * (h1.1 110 3))) + x1) < (200 : Int)) ∧ (x2 < h1.1 133 (am_w32 ((am_w32 (100 * (h1.1 110 3))) + x1)).toNat →
              (0 ≤ am_w32 ((am_w32 (100 * (h1.1 110 3))) + x1) ∧ am_w32 ((am_w32 (100 * (h1.1 110 3))) + x1) < (200 : Int)) ∧ (0 ≤ am_w32 ((am_w32 ((am_w32 (6000 * (h1.1 110 3))) + (h1.1 132 (am_w32 ((am_w32 (100 * (h1.1 110 3))) + x1)).toNat))) + x2) ∧ am_w32 ((am_w32 ((am_w32 (6000 * (h1.1 110 3))) + (h1.1 132 (am_w32 ((am_w32 (100 * (h1.1 110 3))) + x1)).toNat))) + x2) < (12000 : Int)) ∧ Q (h1.1 112 (am_w32 ((am_w32 ((am_w32 (6000 * (h1.1 110 3))) + (h1.1 132 (am_w32 ((am_w32 (100 * (h1.1 110 3))) + x1)).toNat))) + x2)).toNat) ((am_up h1.1 110 0 0), h1.2))
            ∧ (h1.1 133 (am_w32 ((am_w32 (100 * (h1.1 110 3))) + x1)).toNat ≤ x2 →
              Q 0 ((am_up h1.1 110 0 0), h1.2))))
        ∧ (x1 = 0 →
          (x2 < 0 →
            Q 0 ((am_up h1.1 110 0 0), h1.2))
          ∧ (0 ≤ x2 →
            (x2 ≤ 3 →
              (0 ≤ x2 ∧ x2 < (4 : Int)) ∧ Q (am_I0 e.2 (am_SP + 1) x2.toNat) ((am_up h1.1 110 0 0), h1.2))
            ∧ (3 < x2 →
              Q 0 ((am_up h1.1 110 0 0), h1.2)))))
      ∧ (v2 = 0 →
        ak_MI e 1 d ρ 198 [am_r 110, am_i 2] h1 (fun v4 h3 =>
          Q v4 h3) (fun _ _ => False))) (fun _ _ => False))
  ∧ (h.1 110 4 = 0 →
    ak_MI e 1 d ρ 198 [am_r 110, am_i 1] h (fun v6 h5 =>
      Q v6 h5) (fun _ _ => False))) :
  ak_W0 e 1 d 312 ρ 0 [some (am_r 110), some (am_i x1), some (am_i x2)] [] h (ak_qi Q X) := ak_k_ok am_cc312 400 [] w
theorem am_cc313 : am_co am_P 313 = am_lk am_rw313 ∧ am_hl am_P 313 = [] ∧ am_rtag (am_re am_P 313) = 1 := ⟨rfl, rfl, rfl⟩
set_option maxRecDepth 100000 in
theorem am_k313_0 {e : ak_X3} {d : Nat} {ρ : List Nat} {h : ak_S} {Q : Int → ak_S → Prop} {X : Nat → ak_S → Prop} {x1 : Int} (w :
  (h.1 110 4 ≠ 0 →
    ak_MI e 1 d ρ 308 [am_r 110, am_i x1] h (fun v2 h1 =>
      (v2 ≠ 0 →
        (0 ≤ x1 ∧ x1 < (200 : Int)) ∧ Q (h1.1 142 x1.toNat) ((am_up h1.1 110 0 0), h1.2))
      ∧ (v2 = 0 →
        ak_MI e 1 d ρ 198 [am_r 110, am_i 2] h1 (fun v4 h3 =>
          Q v4 h3) (fun _ _ => False))) (fun _ _ => False))
  ∧ (h.1 110 4 = 0 →
    ak_MI e 1 d ρ 198 [am_r 110, am_i 1] h (fun v6 h5 =>
      Q v6 h5) (fun _ _ => False))) :
  ak_W0 e 1 d 313 ρ 0 [some (am_r 110), some (am_i x1)] [] h (ak_qi Q X) := ak_k_ok am_cc313 400 [] w
theorem am_cc314 : am_co am_P 314 = am_lk am_rw314 ∧ am_hl am_P 314 = [] ∧ am_rtag (am_re am_P 314) = 1 := ⟨rfl, rfl, rfl⟩
set_option maxRecDepth 100000 in
theorem am_k314_0 {e : ak_X3} {d : Nat} {ρ : List Nat} {h : ak_S} {Q : Int → ak_S → Prop} {X : Nat → ak_S → Prop} {x1 x2 : Int} (w :
  (h.1 110 4 ≠ 0 →
    (x1 < 0 →
      ak_MI e 1 d ρ 198 [am_r 110, am_i 2] h (fun v2 h1 =>
        Q v2 h1) (fun _ _ => False))
    ∧ (0 ≤ x1 →
      (x1 < h.1 110 53 →
        (0 ≤ x2 →
          (x2 ≠ 0 →
            ((2 : Int) ≠ 0) ∧ (0 ≤ x1 ∧ x1 < (400 : Int)) ∧ (am_w32 (Int.tdiv (am_w32 (x2 - 1)) 2) < h.1 147 x1.toNat →
              ((2 : Int) ≠ 0) ∧ (Int.tmod x2 2 ≠ 1 →
                (0 ≤ am_w32 ((am_w32 (12 * x1)) + (am_w32 (Int.tdiv (am_w32 (x2 - 1)) 2))) ∧ am_w32 ((am_w32 (12 * x1)) + (am_w32 (Int.tdiv (am_w32 (x2 - 1)) 2))) < (4800 : Int)) ∧ Q (h.1 149 (am_w32 ((am_w32 (12 * x1)) + (am_w32 (Int.tdiv (am_w32 (x2 - 1)) 2)))).toNat) ((am_up h.1 110 0 0), h.2))
              ∧ (Int.tmod x2 2 = 1 →
                (0 ≤ am_w32 ((am_w32 (12 * x1)) + (am_w32 (Int.tdiv (am_w32 (x2 - 1)) 2))) ∧ am_w32 ((am_w32 (12 * x1)) + (am_w32 (Int.tdiv (am_w32 (x2 - 1)) 2))) < (4800 : Int)) ∧ Q (h.1 148 (am_w32 ((am_w32 (12 * x1)) + (am_w32 (Int.tdiv (am_w32 (x2 - 1)) 2)))).toNat) ((am_up h.1 110 0 0), h.2)))
            ∧ (h.1 147 x1.toNat ≤ am_w32 (Int.tdiv (am_w32 (x2 - 1)) 2) →
              Q ((-1)) ((am_up h.1 110 0 0), h.2)))
          ∧ (x2 = 0 →
            (0 ≤ x1 ∧ x1 < (400 : Int)) ∧ Q (h.1 147 x1.toNat) ((am_up h.1 110 0 0), h.2)))
        ∧ (x2 < 0 →
          ak_MI e 1 d ρ 198 [am_r 110, am_i 3] h (fun v4 h3 =>
            Q v4 h3) (fun _ _ => False)))
      ∧ (h.1 110 53 ≤ x1 →
        ak_MI e 1 d ρ 198 [am_r 110, am_i 2] h (fun v6 h5 =>
          Q v6 h5) (fun _ _ => False))))
  ∧ (h.1 110 4 = 0 →
    ak_MI e 1 d ρ 198 [am_r 110, am_i 1] h (fun v8 h7 =>
      Q v8 h7) (fun _ _ => False))) :
  ak_W0 e 1 d 314 ρ 0 [some (am_r 110), some (am_i x1), some (am_i x2), none] [] h (ak_qi Q X) := ak_k_ok am_cc314 400 [] w
theorem am_cc315 : am_co am_P 315 = am_lk am_rw315 ∧ am_hl am_P 315 = [] ∧ am_rtag (am_re am_P 315) = 1 := ⟨rfl, rfl, rfl⟩
set_option maxRecDepth 100000 in
theorem am_k315_0 {e : ak_X3} {d : Nat} {ρ : List Nat} {h : ak_S} {Q : Int → ak_S → Prop} {X : Nat → ak_S → Prop} {x1 x2 x3 : Int} (w :
  (h.1 110 4 ≠ 0 →
    (x1 < 0 →
      ak_MI e 1 d ρ 198 [am_r 110, am_i 2] h (fun v2 h1 =>
        Q v2 h1) (fun _ _ => False))
    ∧ (0 ≤ x1 →
      (x1 < h.1 110 53 →
        (0 ≤ x1 ∧ x1 < (400 : Int)) ∧ (h.1 147 x1.toNat ≠ 12 →
          (0 ≤ x1 ∧ x1 < (400 : Int)) ∧ ak_W0 e 1 d 315 ρ 62 [some (am_r 110), some (am_i x1), some (am_i x2), some (am_i x3), some (am_i 0)] [] ((am_up (am_up h.1 110 0 0) 110 62 (h.1 147 x1.toNat)), h.2) (ak_qi Q X))
        ∧ (h.1 147 x1.toNat = 12 →
          Q ((-1)) ((am_up h.1 110 0 0), h.2)))
      ∧ (h.1 110 53 ≤ x1 →
        ak_MI e 1 d ρ 198 [am_r 110, am_i 2] h (fun v4 h3 =>
          Q v4 h3) (fun _ _ => False))))
  ∧ (h.1 110 4 = 0 →
    ak_MI e 1 d ρ 198 [am_r 110, am_i 1] h (fun v6 h5 =>
      Q v6 h5) (fun _ _ => False))) :
  ak_W0 e 1 d 315 ρ 0 [some (am_r 110), some (am_i x1), some (am_i x2), some (am_i x3), none] [] h (ak_qi Q X) := ak_k_ok am_cc315 400 [(62, [true, true, true, true, true])] w
set_option maxRecDepth 100000 in
theorem am_k315_62 {e : ak_X3} {d : Nat} {ρ : List Nat} {h : ak_S} {Q : Int → ak_S → Prop} {X : Nat → ak_S → Prop} {x1 x2 x3 x4 : Int} (w :
  (h.1 110 62 ≤ x4 →
    (0 ≤ h.1 110 62 ∧ h.1 110 62 < (12 : Int)) ∧ (0 ≤ h.1 110 62 ∧ h.1 110 62 < (12 : Int)) ∧ ak_MI e 1 d ρ 239 [am_r 110] ((am_up (am_up (am_up h.1 152 (h.1 110 62).toNat x2) 153 (h.1 110 62).toNat x3) 110 62 (am_w32 ((h.1 110 62) + 1))), h.2) (fun v2 h1 =>
      Q v2 h1) (fun _ _ => False))
  ∧ (x4 < h.1 110 62 →
    (0 ≤ am_w32 ((am_w32 (12 * x1)) + x4) ∧ am_w32 ((am_w32 (12 * x1)) + x4) < (4800 : Int)) ∧ (0 ≤ x4 ∧ x4 < (12 : Int)) ∧ (0 ≤ am_w32 ((am_w32 (12 * x1)) + x4) ∧ am_w32 ((am_w32 (12 * x1)) + x4) < (4800 : Int)) ∧ (0 ≤ x4 ∧ x4 < (12 : Int)) ∧ ak_W0 e 1 d 315 ρ 62 [some (am_r 110), some (am_i x1), some (am_i x2), some (am_i x3), some (am_i (am_w32 (x4 + 1)))] [] ((am_up (am_up h.1 152 x4.toNat (h.1 148 (am_w32 ((am_w32 (12 * x1)) + x4)).toNat)) 153 x4.toNat (h.1 149 (am_w32 ((am_w32 (12 * x1)) + x4)).toNat)), h.2) (ak_qi Q X))) :
  ak_W0 e 1 d 315 ρ 62 [some (am_r 110), some (am_i x1), some (am_i x2), some (am_i x3), some (am_i x4)] [] h (ak_qi Q X) := ak_k_ok am_cc315 400 [(62, [true, true, true, true, true])] w
theorem am_cc316 : am_co am_P 316 = am_lk am_rw316 ∧ am_hl am_P 316 = [] ∧ am_rtag (am_re am_P 316) = 3 := ⟨rfl, rfl, rfl⟩
set_option maxRecDepth 100000 in
theorem am_k316_0 {e : ak_X3} {d : Nat} {ρ : List Nat} {h : ak_S} {Q : Int → ak_S → Prop} {X : Nat → ak_S → Prop} {x1 x2 x3 : Int} (w :
  (h.1 110 4 ≠ 0 →
    ak_MI e 1 d ρ 308 [am_r 110, am_i x1] h (fun v2 h1 =>
      (v2 = 0 →
        ak_MI e 1 d ρ 198 [am_r 110, am_i 2] h1 (fun v4 h3 =>
          Q v4 h3) (fun _ _ => False))
      ∧ (v2 ≠ 0 →
        ak_MI e 1 d ρ 309 [am_r 110, am_i x2] h1 (fun v6 h5 =>
          (v6 ≠ 0 →
            (x3 < 0 →
              ak_MI e 1 d ρ 198 [am_r 110, am_i 3] h5 (fun v8 h7 =>
                Q v8 h7) (fun _ _ => False))
            ∧ (0 ≤ x3 →
              (x3 ≤ 1 →
                ak_MI e 1 d ρ 238 [am_r 110, am_i x1, am_i x2, am_i 0] ((am_up h5.1 110 0 0), h5.2) (fun v10 h9 =>
                  (0 ≤ v10 →
                    (x3 ≠ 1 →
                      (0 ≤ v10 ∧ v10 < (2400 : Int)) ∧ (h9.1 143 v10.toNat ≠ 1 →
                        (0 ≤ v10 ∧ v10 < (2400 : Int)) ∧ Q (h9.1 145 v10.toNat) h9)
                      ∧ (h9.1 143 v10.toNat = 1 →
                        Q 4 h9))
                    ∧ (x3 = 1 →
                      (0 ≤ v10 ∧ v10 < (2400 : Int)) ∧ Q (h9.2.1 146 v10.toNat) h9))
                  ∧ (v10 < 0 →
                    (x3 ≠ 0 →
                      Q 0 h9)
                    ∧ (x3 = 0 →
                      Q ((-1)) h9))) (fun _ _ => False))
              ∧ (1 < x3 →
                ak_MI e 1 d ρ 198 [am_r 110, am_i 3] h5 (fun v12 h11 =>
                  Q v12 h11) (fun _ _ => False))))
          ∧ (v6 = 0 →
            ak_MI e 1 d ρ 198 [am_r 110, am_i 2] h5 (fun v14 h13 =>
              Q v14 h13) (fun _ _ => False))) (fun _ _ => False))) (fun _ _ => False))
  ∧ (h.1 110 4 = 0 →
    ak_MI e 1 d ρ 198 [am_r 110, am_i 1] h (fun v16 h15 =>
      Q v16 h15) (fun _ _ => False))) :
  ak_W0 e 1 d 316 ρ 0 [some (am_r 110), some (am_i x1), some (am_i x2), some (am_i x3), none] [] h (ak_qj Q X) := ak_k_ok am_cc316 400 [] w
theorem am_cc317 : am_co am_P 317 = am_lk am_rw317 ∧ am_hl am_P 317 = [] ∧ am_rtag (am_re am_P 317) = 1 := ⟨rfl, rfl, rfl⟩
set_option maxRecDepth 100000 in
theorem am_k317_0 {e : ak_X3} {d : Nat} {ρ : List Nat} {h : ak_S} {Q : Int → ak_S → Prop} {X : Nat → ak_S → Prop} {x1 x2 : Int} (w :
  (h.1 110 4 ≠ 0 →
    ak_MI e 1 d ρ 308 [am_r 110, am_i x1] h (fun v2 h1 =>
      (v2 ≠ 0 →
        (0 ≤ x1 ∧ x1 < (200 : Int)) ∧ ak_MV e 1 d ρ 248 [am_r 110, am_i (h1.1 142 x1.toNat)] ((am_up h1.1 110 0 0), h1.2) (fun h3 =>
          (x2 < 1 →
            Q ((-1)) h3)
          ∧ (1 ≤ x2 →
            (x2 ≤ h3.1 110 64 →
              (0 ≤ am_w32 (x2 - 1) ∧ am_w32 (x2 - 1) < (200 : Int)) ∧ Q (h3.1 154 (am_w32 (x2 - 1)).toNat) h3)
            ∧ (h3.1 110 64 < x2 →
              Q ((-1)) h3))) (fun _ _ => False))
      ∧ (v2 = 0 →
        ak_MI e 1 d ρ 198 [am_r 110, am_i 2] h1 (fun v5 h4 =>
          Q v5 h4) (fun _ _ => False))) (fun _ _ => False))
  ∧ (h.1 110 4 = 0 →
    ak_MI e 1 d ρ 198 [am_r 110, am_i 1] h (fun v7 h6 =>
      Q v7 h6) (fun _ _ => False))) :
  ak_W0 e 1 d 317 ρ 0 [some (am_r 110), some (am_i x1), some (am_i x2)] [] h (ak_qi Q X) := ak_k_ok am_cc317 400 [] w
theorem am_cc318 : am_co am_P 318 = am_lk am_rw318 ∧ am_hl am_P 318 = [] ∧ am_rtag (am_re am_P 318) = 1 := ⟨rfl, rfl, rfl⟩
set_option maxRecDepth 100000 in
theorem am_k318_0 {e : ak_X3} {d : Nat} {ρ : List Nat} {h : ak_S} {Q : Int → ak_S → Prop} {X : Nat → ak_S → Prop} {x1 x2 x3 : Int} (w :
  (h.1 110 4 ≠ 0 →
    ak_MI e 1 d ρ 308 [am_r 110, am_i x1] h (fun v2 h1 =>
      (v2 = 0 →
        ak_MI e 1 d ρ 198 [am_r 110, am_i 2] h1 (fun v4 h3 =>
          Q v4 h3) (fun _ _ => False))
      ∧ (v2 ≠ 0 →
        ak_MI e 1 d ρ 309 [am_r 110, am_i x2] h1 (fun v6 h5 =>
          (v6 ≠ 0 →
            (x3 < (-1) →
              ak_MI e 1 d ρ 198 [am_r 110, am_i 3] h5 (fun v8 h7 =>
                Q v8 h7) (fun _ _ => False))
            ∧ ((-1) ≤ x3 →
              (x3 ≤ h5.1 110 46 →
                (0 ≤ x1 ∧ x1 < (200 : Int)) ∧ ak_MV e 1 d ρ 251 [am_r 110, am_i (h5.1 142 x1.toNat), am_i x2, am_i x3] ((am_up h5.1 110 0 0), h5.2) (fun h9 =>
                  Q (h9.1 110 69) h9) (fun _ _ => False))
              ∧ (h5.1 110 46 < x3 →
                ak_MI e 1 d ρ 198 [am_r 110, am_i 3] h5 (fun v11 h10 =>
                  Q v11 h10) (fun _ _ => False))))
          ∧ (v6 = 0 →
            ak_MI e 1 d ρ 198 [am_r 110, am_i 2] h5 (fun v13 h12 =>
              Q v13 h12) (fun _ _ => False))) (fun _ _ => False))) (fun _ _ => False))
  ∧ (h.1 110 4 = 0 →
    ak_MI e 1 d ρ 198 [am_r 110, am_i 1] h (fun v15 h14 =>
      Q v15 h14) (fun _ _ => False))) :
  ak_W0 e 1 d 318 ρ 0 [some (am_r 110), some (am_i x1), some (am_i x2), some (am_i x3)] [] h (ak_qi Q X) := ak_k_ok am_cc318 400 [] w
theorem am_cc319 : am_co am_P 319 = am_lk am_rw319 ∧ am_hl am_P 319 = [] ∧ am_rtag (am_re am_P 319) = 1 := ⟨rfl, rfl, rfl⟩
set_option maxRecDepth 100000 in
theorem am_k319_0 {e : ak_X3} {d : Nat} {ρ : List Nat} {h : ak_S} {Q : Int → ak_S → Prop} {X : Nat → ak_S → Prop} {x1 x2 : Int} (w :
  (h.1 110 4 ≠ 0 →
    (x1 < 0 →
      ak_MI e 1 d ρ 198 [am_r 110, am_i 2] h (fun v2 h1 =>
        Q v2 h1) (fun _ _ => False))
    ∧ (0 ≤ x1 →
      (0 ≤ h.1 110 3 ∧ h.1 110 3 < (2 : Int)) ∧ (x1 < h.1 127 (h.1 110 3).toNat →
        (x2 < 0 →
          ak_MI e 1 d ρ 198 [am_r 110, am_i 3] h (fun v4 h3 =>
            Q v4 h3) (fun _ _ => False))
        ∧ (0 ≤ x2 →
          (x2 ≤ 8 →
            True ∧
              ((x2 < 0 ∨ 7 < x2) → (0 ≤ am_w32 ((am_w32 (150 * (h.1 110 3))) + x1) ∧ am_w32 ((am_w32 (150 * (h.1 110 3))) + x1) < (300 : Int)) ∧ Q (h.1 130 (am_w32 ((am_w32 (150 * (h.1 110 3))) + x1)).toNat) ((am_up h.1 110 0 0), h.2)) ∧
              (x2 = 0 → (0 ≤ am_w32 ((am_w32 (150 * (h.1 110 3))) + x1) ∧ am_w32 ((am_w32 (150 * (h.1 110 3))) + x1) < (300 : Int)) ∧ Q (h.1 128 (am_w32 ((am_w32 (150 * (h.1 110 3))) + x1)).toNat) ((am_up h.1 110 0 0), h.2)) ∧
              (x2 = 0 + 1 → (0 ≤ am_w32 ((am_w32 (150 * (h.1 110 3))) + x1) ∧ am_w32 ((am_w32 (150 * (h.1 110 3))) + x1) < (300 : Int)) ∧ Q (h.1 129 (am_w32 ((am_w32 (150 * (h.1 110 3))) + x1)).toNat) ((am_up h.1 110 0 0), h.2)) ∧
              (x2 = 0 + 1 + 1 → (0 ≤ x1 ∧ x1 < (150 : Int)) ∧ Q (h.1 158 x1.toNat) ((am_up h.1 110 0 0), h.2)) ∧
              (x2 = 0 + 1 + 1 + 1 → (0 ≤ x1 ∧ x1 < (150 : Int)) ∧ Q (h.1 159 x1.toNat) ((am_up h.1 110 0 0), h.2)) ∧
              (x2 = 0 + 1 + 1 + 1 + 1 → (0 ≤ x1 ∧ x1 < (150 : Int)) ∧ Q (h.1 160 x1.toNat) ((am_up h.1 110 0 0), h.2)) ∧
              (x2 = 0 + 1 + 1 + 1 + 1 + 1 → (0 ≤ x1 ∧ x1 < (150 : Int)) ∧ Q (h.1 161 x1.toNat) ((am_up h.1 110 0 0), h.2)) ∧
              (x2 = 0 + 1 + 1 + 1 + 1 + 1 + 1 → (0 ≤ x1 ∧ x1 < (150 : Int)) ∧ Q (h.1 162 x1.toNat) ((am_up h.1 110 0 0), h.2)) ∧
              (x2 = 0 + 1 + 1 + 1 + 1 + 1 + 1 + 1 → (0 ≤ x1 ∧ x1 < (150 : Int)) ∧ Q (h.1 163 x1.toNat) ((am_up h.1 110 0 0), h.2)) ∧ True)
          ∧ (8 < x2 →
            ak_MI e 1 d ρ 198 [am_r 110, am_i 3] h (fun v6 h5 =>
              Q v6 h5) (fun _ _ => False))))
      ∧ (h.1 127 (h.1 110 3).toNat ≤ x1 →
        ak_MI e 1 d ρ 198 [am_r 110, am_i 2] h (fun v8 h7 =>
          Q v8 h7) (fun _ _ => False))))
  ∧ (h.1 110 4 = 0 →
    ak_MI e 1 d ρ 198 [am_r 110, am_i 1] h (fun v10 h9 =>
      Q v10 h9) (fun _ _ => False))) :
  ak_W0 e 1 d 319 ρ 0 [some (am_r 110), some (am_i x1), some (am_i x2), none] [] h (ak_qi Q X) := ak_k_ok am_cc319 400 [] w
theorem am_cc320 : am_co am_P 320 = am_lk am_rw320 ∧ am_hl am_P 320 = [] ∧ am_rtag (am_re am_P 320) = 1 := ⟨rfl, rfl, rfl⟩
set_option maxRecDepth 100000 in
theorem am_k320_0 {e : ak_X3} {d : Nat} {ρ : List Nat} {h : ak_S} {Q : Int → ak_S → Prop} {X : Nat → ak_S → Prop} {x1 x2 : Int} (w :
  (x1 < (-1) →
    Q ((-1)) h)
  ∧ ((-1) ≤ x1 →
    (0 ≤ h.1 110 3 ∧ h.1 110 3 < (2 : Int)) ∧ (h.1 127 (h.1 110 3).toNat ≤ x1 →
      Q ((-1)) h)
    ∧ (x1 < h.1 127 (h.1 110 3).toNat →
      (0 ≤ x2 →
        (0 ≤ x1 →
          (0 ≤ x1 ∧ x1 < (150 : Int)) ∧ (h.1 159 x1.toNat ≤ x2 →
            Q ((-1)) h)
          ∧ (x2 < h.1 159 x1.toNat →
            Q (am_w32 ((am_w32 (4 * x1)) + x2)) h))
        ∧ (x1 < 0 →
          (h.1 110 78 ≤ x2 →
            Q ((-1)) h)
          ∧ (x2 < h.1 110 78 →
            Q (am_w32 (600 + x2)) h)))
      ∧ (x2 < 0 →
        Q ((-1)) h)))) :
  ak_W0 e 1 d 320 ρ 0 [some (am_r 110), some (am_i x1), some (am_i x2)] [] h (ak_qi Q X) := ak_k_ok am_cc320 400 [] w
theorem am_cc321 : am_co am_P 321 = am_lk am_rw321 ∧ am_hl am_P 321 = [] ∧ am_rtag (am_re am_P 321) = 1 := ⟨rfl, rfl, rfl⟩
set_option maxRecDepth 100000 in
theorem am_k321_0 {e : ak_X3} {d : Nat} {ρ : List Nat} {h : ak_S} {Q : Int → ak_S → Prop} {X : Nat → ak_S → Prop} {x1 x2 x3 : Int} (w :
  (h.1 110 4 ≠ 0 →
    ak_MI e 1 d ρ 320 [am_r 110, am_i x1, am_i x2] h (fun v2 h1 =>
      (0 ≤ v2 →
        (x3 < 0 →
          ak_MI e 1 d ρ 198 [am_r 110, am_i 3] h1 (fun v4 h3 =>
            Q v4 h3) (fun _ _ => False))
        ∧ (0 ≤ x3 →
          (x3 ≤ 4 →
            (x3 ≠ 0 →
              (x3 ≠ 1 →
                (x3 ≠ 2 →
                  (x3 ≠ 3 →
                    (0 ≤ v2 ∧ v2 < (728 : Int)) ∧ Q (h1.1 165 v2.toNat) ((am_up h1.1 110 0 0), h1.2))
                  ∧ (x3 = 3 →
                    (0 ≤ v2 ∧ v2 < (728 : Int)) ∧ Q (h1.1 168 v2.toNat) ((am_up h1.1 110 0 0), h1.2)))
                ∧ (x3 = 2 →
                  (0 ≤ v2 ∧ v2 < (728 : Int)) ∧ Q (h1.1 167 v2.toNat) ((am_up h1.1 110 0 0), h1.2)))
              ∧ (x3 = 1 →
                (0 ≤ v2 ∧ v2 < (728 : Int)) ∧ Q (h1.1 166 v2.toNat) ((am_up h1.1 110 0 0), h1.2)))
            ∧ (x3 = 0 →
              (0 ≤ v2 ∧ v2 < (728 : Int)) ∧ Q (h1.1 164 v2.toNat) ((am_up h1.1 110 0 0), h1.2)))
          ∧ (4 < x3 →
            ak_MI e 1 d ρ 198 [am_r 110, am_i 3] h1 (fun v6 h5 =>
              Q v6 h5) (fun _ _ => False))))
      ∧ (v2 < 0 →
        ak_MI e 1 d ρ 198 [am_r 110, am_i 2] h1 (fun v8 h7 =>
          Q v8 h7) (fun _ _ => False))) (fun _ _ => False))
  ∧ (h.1 110 4 = 0 →
    ak_MI e 1 d ρ 198 [am_r 110, am_i 1] h (fun v10 h9 =>
      Q v10 h9) (fun _ _ => False))) :
  ak_W0 e 1 d 321 ρ 0 [some (am_r 110), some (am_i x1), some (am_i x2), some (am_i x3), none] [] h (ak_qi Q X) := ak_k_ok am_cc321 400 [] w
theorem am_cc322 : am_co am_P 322 = am_lk am_rw322 ∧ am_hl am_P 322 = [] ∧ am_rtag (am_re am_P 322) = 2 := ⟨rfl, rfl, rfl⟩
set_option maxRecDepth 100000 in
theorem am_k322_0 {e : ak_X3} {d : Nat} {ρ : List Nat} {h : ak_S} {Q : Int → ak_S → Prop} {X : Nat → ak_S → Prop} {x1 x2 x3 : Int} (w :
  (h.1 110 4 ≠ 0 →
    ak_MI e 1 d ρ 320 [am_r 110, am_i x1, am_i x2] h (fun v2 h1 =>
      (v2 < 0 →
        ak_W0 e 1 d 322 ρ 34 [some (am_r 110), some (am_i x1), some (am_i x2), some (am_i x3)] [am_i 2, am_r 110] h1 (ak_qi Q X))
      ∧ (0 ≤ v2 →
        ak_MI e 1 d ρ 308 [am_r 110, am_i x3] h1 (fun v4 h3 =>
          (v4 ≠ 0 →
            ak_W0 e 1 d 322 ρ 34 [some (am_r 110), some (am_i x1), some (am_i x2), some (am_i x3)] [am_i 0, am_r 110] h3 (ak_qi Q X))
          ∧ (v4 = 0 →
            ak_W0 e 1 d 322 ρ 34 [some (am_r 110), some (am_i x1), some (am_i x2), some (am_i x3)] [am_i 2, am_r 110] h3 (ak_qi Q X))) (fun _ _ => False))) (fun _ _ => False))
  ∧ (h.1 110 4 = 0 →
    ak_W0 e 1 d 322 ρ 34 [some (am_r 110), some (am_i x1), some (am_i x2), some (am_i x3)] [am_i 1, am_r 110] h (ak_qi Q X))) :
  ak_W0 e 1 d 322 ρ 0 [some (am_r 110), some (am_i x1), some (am_i x2), some (am_i x3)] [] h (ak_qi Q X) := ak_k_ok am_cc322 400 [(34, [true, true, true, true])] w
set_option maxRecDepth 100000 in
theorem am_k322_34 {e : ak_X3} {d : Nat} {ρ : List Nat} {h : ak_S} {Q : Int → ak_S → Prop} {X : Nat → ak_S → Prop} {x1 x2 x3 y0 : Int} (w :
  (y0 ≠ 0 →
    ((0 : Int) = 0 ∨ (0 : Int) = 1) ∧ Q 0 ((am_up h.1 110 0 y0), h.2))
  ∧ (y0 = 0 →
    ak_MI e 1 d ρ 320 [am_r 110, am_i x1, am_i x2] ((am_up h.1 110 0 y0), h.2) (fun v2 h1 =>
      ak_MI e 1 d ρ 253 [am_r 110, am_i v2, am_i x3] h1 (fun v4 h3 =>
        (v4 = 0 →
          ((0 : Int) = 0 ∨ (0 : Int) = 1) ∧ Q 0 h3)
        ∧ (v4 ≠ 0 →
          ((1 : Int) = 0 ∨ (1 : Int) = 1) ∧ Q 1 h3)) (fun _ _ => False)) (fun _ _ => False))) :
  ak_W0 e 1 d 322 ρ 34 [some (am_r 110), some (am_i x1), some (am_i x2), some (am_i x3)] [am_i y0, am_r 110] h (ak_qi Q X) := ak_k_ok am_cc322 400 [(34, [true, true, true, true])] w
theorem am_cc323 : am_co am_P 323 = am_lk am_rw323 ∧ am_hl am_P 323 = [] ∧ am_rtag (am_re am_P 323) = 1 := ⟨rfl, rfl, rfl⟩
set_option maxRecDepth 100000 in
theorem am_k323_0 {e : ak_X3} {d : Nat} {ρ : List Nat} {h : ak_S} {Q : Int → ak_S → Prop} {X : Nat → ak_S → Prop} (w :
  (h.1 110 4 ≠ 0 →
    Q (h.1 110 84) ((am_up h.1 110 0 0), h.2))
  ∧ (h.1 110 4 = 0 →
    ak_MI e 1 d ρ 198 [am_r 110, am_i 1] h (fun v2 h1 =>
      Q v2 h1) (fun _ _ => False))) :
  ak_W0 e 1 d 323 ρ 0 [some (am_r 110)] [] h (ak_qi Q X) := ak_k_ok am_cc323 400 [] w
theorem am_cc324 : am_co am_P 324 = am_lk am_rw324 ∧ am_hl am_P 324 = [] ∧ am_rtag (am_re am_P 324) = 1 := ⟨rfl, rfl, rfl⟩
set_option maxRecDepth 100000 in
theorem am_k324_0 {e : ak_X3} {d : Nat} {ρ : List Nat} {h : ak_S} {Q : Int → ak_S → Prop} {X : Nat → ak_S → Prop} {x1 x2 : Int} (w :
  (h.1 110 4 ≠ 0 →
    (x1 < 0 →
      ak_MI e 1 d ρ 198 [am_r 110, am_i 2] h (fun v2 h1 =>
        Q v2 h1) (fun _ _ => False))
    ∧ (0 ≤ x1 →
      (x1 < h.1 110 84 →
        (x2 < 0 →
          ak_MI e 1 d ρ 198 [am_r 110, am_i 3] h (fun v4 h3 =>
            Q v4 h3) (fun _ _ => False))
        ∧ (0 ≤ x2 →
          (x2 ≤ 3 →
            (x2 ≠ 0 →
              (x2 ≠ 1 →
                (x2 ≠ 2 →
                  (0 ≤ x1 ∧ x1 < (728 : Int)) ∧ Q (h.1 172 x1.toNat) ((am_up h.1 110 0 0), h.2))
                ∧ (x2 = 2 →
                  (0 ≤ x1 ∧ x1 < (728 : Int)) ∧ Q (h.1 171 x1.toNat) ((am_up h.1 110 0 0), h.2)))
              ∧ (x2 = 1 →
                (0 ≤ x1 ∧ x1 < (728 : Int)) ∧ Q (h.1 170 x1.toNat) ((am_up h.1 110 0 0), h.2)))
            ∧ (x2 = 0 →
              (0 ≤ x1 ∧ x1 < (728 : Int)) ∧ Q (h.1 169 x1.toNat) ((am_up h.1 110 0 0), h.2)))
          ∧ (3 < x2 →
            ak_MI e 1 d ρ 198 [am_r 110, am_i 3] h (fun v6 h5 =>
              Q v6 h5) (fun _ _ => False))))
      ∧ (h.1 110 84 ≤ x1 →
        ak_MI e 1 d ρ 198 [am_r 110, am_i 2] h (fun v8 h7 =>
          Q v8 h7) (fun _ _ => False))))
  ∧ (h.1 110 4 = 0 →
    ak_MI e 1 d ρ 198 [am_r 110, am_i 1] h (fun v10 h9 =>
      Q v10 h9) (fun _ _ => False))) :
  ak_W0 e 1 d 324 ρ 0 [some (am_r 110), some (am_i x1), some (am_i x2)] [] h (ak_qi Q X) := ak_k_ok am_cc324 400 [] w
theorem am_cc325 : am_co am_P 325 = am_lk am_rw325 ∧ am_hl am_P 325 = [] ∧ am_rtag (am_re am_P 325) = 2 := ⟨rfl, rfl, rfl⟩
set_option maxRecDepth 100000 in
theorem am_k325_0 {e : ak_X3} {d : Nat} {ρ : List Nat} {h : ak_S} {Q : Int → ak_S → Prop} {X : Nat → ak_S → Prop} {x1 : Int} (w :
  (0 ≤ x1 ∧ x1 < (728 : Int)) ∧ (0 ≤ x1 ∧ x1 < (728 : Int)) ∧ (0 ≤ x1 ∧ x1 < (728 : Int)) ∧ ak_MV e 1 d ρ 251 [am_r 110, am_i (h.1 164 x1.toNat), am_i (h.1 165 x1.toNat), am_i (h.1 166 x1.toNat)] h (fun h1 =>
    (0 ≤ x1 ∧ x1 < (728 : Int)) ∧ (h1.1 110 69 ≠ h1.1 167 x1.toNat →
      ((1 : Int) = 0 ∨ (1 : Int) = 1) ∧ Q 1 h1)
    ∧ (h1.1 110 69 = h1.1 167 x1.toNat →
      (0 ≤ x1 ∧ x1 < (728 : Int)) ∧ (h1.1 110 70 = h1.1 168 x1.toNat →
        ((0 : Int) = 0 ∨ (0 : Int) = 1) ∧ Q 0 h1)
      ∧ (h1.1 110 70 ≠ h1.1 168 x1.toNat →
        ((1 : Int) = 0 ∨ (1 : Int) = 1) ∧ Q 1 h1))) (fun _ _ => False)) :
  ak_W0 e 1 d 325 ρ 0 [some (am_r 110), some (am_i x1)] [] h (ak_qi Q X) := ak_k_ok am_cc325 400 [] w
theorem am_cc326 : am_co am_P 326 = am_lk am_rw326 ∧ am_hl am_P 326 = [] ∧ am_rtag (am_re am_P 326) = 1 := ⟨rfl, rfl, rfl⟩
set_option maxRecDepth 100000 in
theorem am_k326_0 {e : ak_X3} {d : Nat} {ρ : List Nat} {h : ak_S} {Q : Int → ak_S → Prop} {X : Nat → ak_S → Prop} (w :
  (h.1 110 4 ≠ 0 →
    ak_W0 e 1 d 326 ρ 22 [some (am_r 110), some (am_i 0), some (am_i 0), none] [] ((am_up h.1 110 0 0), h.2) (ak_qi Q X))
  ∧ (h.1 110 4 = 0 →
    ak_MI e 1 d ρ 198 [am_r 110, am_i 1] h (fun v2 h1 =>
      Q v2 h1) (fun _ _ => False))) :
  ak_W0 e 1 d 326 ρ 0 [some (am_r 110), none, none, none] [] h (ak_qi Q X) := ak_k_ok am_cc326 400 [(22, [true, true, true, false]), (37, [true, true, true, true]), (81, [true, true, true, false])] w
set_option maxRecDepth 100000 in
theorem am_k326_22 {e : ak_X3} {d : Nat} {ρ : List Nat} {h : ak_S} {Q : Int → ak_S → Prop} {X : Nat → ak_S → Prop} {x1 x2 : Int} (w :
  (0 ≤ h.1 110 3 ∧ h.1 110 3 < (2 : Int)) ∧ (h.1 127 (h.1 110 3).toNat ≤ x2 →
    ak_W0 e 1 d 326 ρ 81 [some (am_r 110), some (am_i x1), some (am_i 0), none] [] h (ak_qi Q X))
  ∧ (x2 < h.1 127 (h.1 110 3).toNat →
    ak_W0 e 1 d 326 ρ 37 [some (am_r 110), some (am_i x1), some (am_i x2), some (am_i 0)] [] h (ak_qi Q X))) :
  ak_W0 e 1 d 326 ρ 22 [some (am_r 110), some (am_i x1), some (am_i x2), none] [] h (ak_qi Q X) := ak_k_ok am_cc326 400 [(22, [true, true, true, false]), (37, [true, true, true, true]), (81, [true, true, true, false])] w
set_option maxRecDepth 100000 in
theorem am_k326_37 {e : ak_X3} {d : Nat} {ρ : List Nat} {h : ak_S} {Q : Int → ak_S → Prop} {X : Nat → ak_S → Prop} {x1 x2 x3 : Int} (w :
  (0 ≤ x2 ∧ x2 < (150 : Int)) ∧ (h.1 159 x2.toNat ≤ x3 →
    ak_W0 e 1 d 326 ρ 22 [some (am_r 110), some (am_i x1), some (am_i (am_w32 (x2 + 1))), none] [] h (ak_qi Q X))
  ∧ (x3 < h.1 159 x2.toNat →
    ak_MI e 1 d ρ 325 [am_r 110, am_i (am_w32 ((am_w32 (4 * x2)) + x3))] h (fun v2 h1 =>
      (v2 = 0 →
        ak_W0 e 1 d 326 ρ 37 [some (am_r 110), some (am_i (am_w32 (x1 + 0))), some (am_i x2), some (am_i (am_w32 (x3 + 1)))] [] h1 (ak_qi Q X))
      ∧ (v2 ≠ 0 →
        ak_W0 e 1 d 326 ρ 37 [some (am_r 110), some (am_i (am_w32 (x1 + 1))), some (am_i x2), some (am_i (am_w32 (x3 + 1)))] [] h1 (ak_qi Q X))) (fun _ _ => False))) :
  ak_W0 e 1 d 326 ρ 37 [some (am_r 110), some (am_i x1), some (am_i x2), some (am_i x3)] [] h (ak_qi Q X) := ak_k_ok am_cc326 400 [(22, [true, true, true, false]), (37, [true, true, true, true]), (81, [true, true, true, false])] w
set_option maxRecDepth 100000 in
theorem am_k326_81 {e : ak_X3} {d : Nat} {ρ : List Nat} {h : ak_S} {Q : Int → ak_S → Prop} {X : Nat → ak_S → Prop} {x1 x2 : Int} (w :
  (h.1 110 78 ≤ x2 →
    Q x1 h)
  ∧ (x2 < h.1 110 78 →
    ak_MI e 1 d ρ 325 [am_r 110, am_i (am_w32 (600 + x2))] h (fun v2 h1 =>
      (v2 = 0 →
        ak_W0 e 1 d 326 ρ 81 [some (am_r 110), some (am_i (am_w32 (x1 + 0))), some (am_i (am_w32 (x2 + 1))), none] [] h1 (ak_qi Q X))
      ∧ (v2 ≠ 0 →
        ak_W0 e 1 d 326 ρ 81 [some (am_r 110), some (am_i (am_w32 (x1 + 1))), some (am_i (am_w32 (x2 + 1))), none] [] h1 (ak_qi Q X))) (fun _ _ => False))) :
  ak_W0 e 1 d 326 ρ 81 [some (am_r 110), some (am_i x1), some (am_i x2), none] [] h (ak_qi Q X) := ak_k_ok am_cc326 400 [(22, [true, true, true, false]), (37, [true, true, true, true]), (81, [true, true, true, false])] w
