/-! rules of one more library member -/
theorem am_cc357 : am_co am_P 357 = am_lk am_rw357 ∧ am_hl am_P 357 = [] ∧ am_rtag (am_re am_P 357) = 1 := ⟨rfl, rfl, rfl⟩
set_option maxRecDepth 100000 in
theorem am_k357_0 {e : ak_X3} {d : Nat} {ρ : List Nat} {h : ak_S} {Q : Int → ak_S → Prop} {X : Nat → ak_S → Prop} (w :
  ak_MI e 0 d ρ 353 [am_r ((am_SP + 11))] h (fun v2 h1 =>
    Q ((Int32.ofInt 19 >>> (Int32.ofInt v2 &&& 31)).toInt) h1) (fun _ _ => False)) :
  ak_W0 e 0 d 357 ρ 0 [some (am_r ((am_SP + 11)))] [] h (ak_qi Q X) := ak_k_ok am_cc357 400 [] w
