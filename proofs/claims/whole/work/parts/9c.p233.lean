/-! the other's statement, by its first token -/
section P233
variable {e : ak_X3} {d : Nat} {ρ : List Nat} {hm : ak_S}
theorem am_p233_201 {Q : Int → ak_S → Prop} {X : Nat → ak_S → Prop} (hk : hm.1 110 33 = 201) (g :
    ak_MV e 1 d ρ 205 [am_r 110] hm (fun h1 =>
      ak_MV e 1 d ρ 215 [am_r 110] h1 (fun h2 =>
        ak_MI e 1 d ρ 206 [am_r 110] h2 (fun v4 h3 =>
          (v4 = 0 →
            ak_MV e 1 d ρ 205 [am_r 110] h3 (fun h5 =>
              ak_MV e 1 d ρ 209 [am_r 110, am_i 61] h5 (fun h6 =>
                ak_MI e 1 d ρ 212 [am_r 110, am_i 20, am_i (hm.1 110 34)] h6 (fun v8 h7 =>
                  ak_MI e 1 d ρ 222 [am_r 110] h7 (fun v10 h9 =>
                    (0 ≤ v8 ∧ v8 < (18000 : Int)) ∧ ak_MV e 1 d ρ 209 [am_r 110, am_i 59] ((am_up h9.1 115 v8.toNat v10), h9.2) (fun h11 =>
                      ak_MI e 1 d ρ 206 [am_r 110] h11 (fun v13 h12 =>
                        (v13 ≠ 0 →
                          Q v8 h12)
                        ∧ (v13 = 0 →
                          ak_MI e 1 d ρ 216 [am_r 110, am_i (h3.1 110 34), am_i (h3.1 110 35)] h12 (fun v15 h14 =>
                            (0 ≤ v8 ∧ v8 < (18000 : Int)) ∧ Q v8 ((am_up h14.1 116 v8.toNat v15), h14.2)) (fun _ _ => False))) (fun _ _ => False)) (fun _ _ => False)) (fun _ _ => False)) (fun _ _ => False)) (fun _ _ => False)) (fun _ _ => False))
          ∧ (v4 ≠ 0 →
            Q ((-1)) h3)) (fun _ _ => False)) (fun _ _ => False)) (fun _ _ => False)) : ak_MI e 1 (d + 1) ρ 233 [am_r 110] hm Q X :=
  ak_MI_of (Nat.le_of_ble_eq_true rfl) (am_k233_0 ⟨trivial, fun q => absurd q (by rw [hk]; decide), fun _ => g, fun q => absurd (hk.symm.trans q) (by decide), fun q => absurd (hk.symm.trans q) (by decide), fun q => absurd (hk.symm.trans q) (by decide), fun q => absurd (hk.symm.trans q) (by decide), fun q => absurd (hk.symm.trans q) (by decide), fun q => absurd (hk.symm.trans q) (by decide), fun q => absurd (hk.symm.trans q) (by decide), fun q => absurd (hk.symm.trans q) (by decide), fun q => absurd (hk.symm.trans q) (by decide), fun q => absurd (hk.symm.trans q) (by decide), fun q => absurd (hk.symm.trans q) (by decide), fun q => absurd (hk.symm.trans q) (by decide), fun q => absurd (hk.symm.trans q) (by decide), fun q => absurd (hk.symm.trans q) (by decide), fun q => absurd (hk.symm.trans q) (by decide), fun q => absurd (hk.symm.trans q) (by decide), trivial⟩)
theorem am_p233_202 {Q : Int → ak_S → Prop} {X : Nat → ak_S → Prop} (hk : hm.1 110 33 = 202) (g :
    ak_MV e 1 d ρ 205 [am_r 110] hm (fun h16 =>
      ak_MI e 1 d ρ 212 [am_r 110, am_i 29, am_i (hm.1 110 34)] h16 (fun v18 h17 =>
        ak_MI e 1 d ρ 222 [am_r 110] h17 (fun v20 h19 =>
          (0 ≤ v18 ∧ v18 < (18000 : Int)) ∧ ak_MI e 1 d ρ 232 [am_r 110] ((am_up h19.1 115 v18.toNat v20), h19.2) (fun v22 h21 =>
            (0 ≤ v18 ∧ v18 < (18000 : Int)) ∧ ak_MI e 1 d ρ 208 [am_r 110, am_i 203] ((am_up h21.1 116 v18.toNat v22), h21.2) (fun v24 h23 =>
              (v24 = 0 →
                Q v18 h23)
              ∧ (v24 ≠ 0 →
                ak_MV e 1 d ρ 205 [am_r 110] h23 (fun h25 =>
                  ak_MI e 1 d ρ 232 [am_r 110] h25 (fun v27 h26 =>
                    (0 ≤ v18 ∧ v18 < (18000 : Int)) ∧ Q v18 ((am_up h26.1 117 v18.toNat v27), h26.2)) (fun _ _ => False)) (fun _ _ => False))) (fun _ _ => False)) (fun _ _ => False)) (fun _ _ => False)) (fun _ _ => False)) (fun _ _ => False)) : ak_MI e 1 (d + 1) ρ 233 [am_r 110] hm Q X :=
  ak_MI_of (Nat.le_of_ble_eq_true rfl) (am_k233_0 ⟨trivial, fun q => absurd q (by rw [hk]; decide), fun q => absurd (hk.symm.trans q) (by decide), fun _ => g, fun q => absurd (hk.symm.trans q) (by decide), fun q => absurd (hk.symm.trans q) (by decide), fun q => absurd (hk.symm.trans q) (by decide), fun q => absurd (hk.symm.trans q) (by decide), fun q => absurd (hk.symm.trans q) (by decide), fun q => absurd (hk.symm.trans q) (by decide), fun q => absurd (hk.symm.trans q) (by decide), fun q => absurd (hk.symm.trans q) (by decide), fun q => absurd (hk.symm.trans q) (by decide), fun q => absurd (hk.symm.trans q) (by decide), fun q => absurd (hk.symm.trans q) (by decide), fun q => absurd (hk.symm.trans q) (by decide), fun q => absurd (hk.symm.trans q) (by decide), fun q => absurd (hk.symm.trans q) (by decide), fun q => absurd (hk.symm.trans q) (by decide), trivial⟩)
theorem am_p233_204 {Q : Int → ak_S → Prop} {X : Nat → ak_S → Prop} (hk : hm.1 110 33 = 204) (g :
    ak_MV e 1 d ρ 205 [am_r 110] hm (fun h28 =>
      ak_MI e 1 d ρ 212 [am_r 110, am_i 30, am_i (hm.1 110 34)] h28 (fun v30 h29 =>
        ak_MI e 1 d ρ 222 [am_r 110] h29 (fun v32 h31 =>
          (0 ≤ v30 ∧ v30 < (18000 : Int)) ∧ ak_MI e 1 d ρ 232 [am_r 110] ((am_up h31.1 115 v30.toNat v32), h31.2) (fun v34 h33 =>
            (0 ≤ v30 ∧ v30 < (18000 : Int)) ∧ Q v30 ((am_up h33.1 116 v30.toNat v34), h33.2)) (fun _ _ => False)) (fun _ _ => False)) (fun _ _ => False)) (fun _ _ => False)) : ak_MI e 1 (d + 1) ρ 233 [am_r 110] hm Q X :=
  ak_MI_of (Nat.le_of_ble_eq_true rfl) (am_k233_0 ⟨trivial, fun q => absurd q (by rw [hk]; decide), fun q => absurd (hk.symm.trans q) (by decide), fun q => absurd (hk.symm.trans q) (by decide), fun q => absurd (hk.symm.trans q) (by decide), fun _ => g, fun q => absurd (hk.symm.trans q) (by decide), fun q => absurd (hk.symm.trans q) (by decide), fun q => absurd (hk.symm.trans q) (by decide), fun q => absurd (hk.symm.trans q) (by decide), fun q => absurd (hk.symm.trans q) (by decide), fun q => absurd (hk.symm.trans q) (by decide), fun q => absurd (hk.symm.trans q) (by decide), fun q => absurd (hk.symm.trans q) (by decide), fun q => absurd (hk.symm.trans q) (by decide), fun q => absurd (hk.symm.trans q) (by decide), fun q => absurd (hk.symm.trans q) (by decide), fun q => absurd (hk.symm.trans q) (by decide), fun q => absurd (hk.symm.trans q) (by decide), trivial⟩)
theorem am_p233_208 {Q : Int → ak_S → Prop} {X : Nat → ak_S → Prop} (hk : hm.1 110 33 = 208) (g :
    ak_MV e 1 d ρ 205 [am_r 110] hm (fun h35 =>
      ak_MI e 1 d ρ 212 [am_r 110, am_i 34, am_i (hm.1 110 34)] h35 (fun v37 h36 =>
        (h36.1 110 33 ≠ 3 →
          ak_MV e 1 d ρ 207 [am_r 110, am_i (h36.1 110 34)] h36 (fun h38 =>
            ak_W0 e 1 d 233 ρ 651 [some (am_r 110), none, some (am_i v37), none, none, none, none, none] [] h38 (ak_qi Q X)) (fun _ _ => False))
        ∧ (h36.1 110 33 = 3 →
          (h36.1 110 36 < 20 →
            ak_MV e 1 d ρ 207 [am_r 110, am_i (h36.1 110 34)] h36 (fun h39 =>
              ak_W0 e 1 d 233 ρ 651 [some (am_r 110), none, some (am_i v37), none, none, none, none, none] [] h39 (ak_qi Q X)) (fun _ _ => False))
          ∧ (20 ≤ h36.1 110 36 →
            (h36.1 110 36 ≤ 99 →
              ak_W0 e 1 d 233 ρ 651 [some (am_r 110), none, some (am_i v37), none, none, none, none, none] [] h36 (ak_qi Q X))
            ∧ (99 < h36.1 110 36 →
              ak_MV e 1 d ρ 207 [am_r 110, am_i (h36.1 110 34)] h36 (fun h40 =>
                ak_W0 e 1 d 233 ρ 651 [some (am_r 110), none, some (am_i v37), none, none, none, none, none] [] h40 (ak_qi Q X)) (fun _ _ => False))))) (fun _ _ => False)) (fun _ _ => False)) : ak_MI e 1 (d + 1) ρ 233 [am_r 110] hm Q X :=
  ak_MI_of (Nat.le_of_ble_eq_true rfl) (am_k233_0 ⟨trivial, fun q => absurd q (by rw [hk]; decide), fun q => absurd (hk.symm.trans q) (by decide), fun q => absurd (hk.symm.trans q) (by decide), fun q => absurd (hk.symm.trans q) (by decide), fun q => absurd (hk.symm.trans q) (by decide), fun q => absurd (hk.symm.trans q) (by decide), fun q => absurd (hk.symm.trans q) (by decide), fun q => absurd (hk.symm.trans q) (by decide), fun _ => g, fun q => absurd (hk.symm.trans q) (by decide), fun q => absurd (hk.symm.trans q) (by decide), fun q => absurd (hk.symm.trans q) (by decide), fun q => absurd (hk.symm.trans q) (by decide), fun q => absurd (hk.symm.trans q) (by decide), fun q => absurd (hk.symm.trans q) (by decide), fun q => absurd (hk.symm.trans q) (by decide), fun q => absurd (hk.symm.trans q) (by decide), fun q => absurd (hk.symm.trans q) (by decide), trivial⟩)
theorem am_p233_209 {Q : Int → ak_S → Prop} {X : Nat → ak_S → Prop} (hk : hm.1 110 33 = 209) (g :
    ak_MI e 1 d ρ 234 [am_r 110, am_i (hm.1 110 34)] hm (fun v42 h41 =>
      Q v42 h41) (fun _ _ => False)) : ak_MI e 1 (d + 1) ρ 233 [am_r 110] hm Q X :=
  ak_MI_of (Nat.le_of_ble_eq_true rfl) (am_k233_0 ⟨trivial, fun q => absurd q (by rw [hk]; decide), fun q => absurd (hk.symm.trans q) (by decide), fun q => absurd (hk.symm.trans q) (by decide), fun q => absurd (hk.symm.trans q) (by decide), fun q => absurd (hk.symm.trans q) (by decide), fun q => absurd (hk.symm.trans q) (by decide), fun q => absurd (hk.symm.trans q) (by decide), fun q => absurd (hk.symm.trans q) (by decide), fun q => absurd (hk.symm.trans q) (by decide), fun _ => g, fun q => absurd (hk.symm.trans q) (by decide), fun q => absurd (hk.symm.trans q) (by decide), fun q => absurd (hk.symm.trans q) (by decide), fun q => absurd (hk.symm.trans q) (by decide), fun q => absurd (hk.symm.trans q) (by decide), fun q => absurd (hk.symm.trans q) (by decide), fun q => absurd (hk.symm.trans q) (by decide), fun q => absurd (hk.symm.trans q) (by decide), trivial⟩)
theorem am_p233_214 {Q : Int → ak_S → Prop} {X : Nat → ak_S → Prop} (hk : hm.1 110 33 = 214) (g :
    ak_MV e 1 d ρ 205 [am_r 110] hm (fun h43 =>
      ak_MI e 1 d ρ 212 [am_r 110, am_i 25, am_i (hm.1 110 34)] h43 (fun v45 h44 =>
        ak_MI e 1 d ρ 222 [am_r 110] h44 (fun v47 h46 =>
          (0 ≤ v45 ∧ v45 < (18000 : Int)) ∧ ak_MV e 1 d ρ 209 [am_r 110, am_i 44] ((am_up h46.1 115 v45.toNat v47), h46.2) (fun h48 =>
            ak_MI e 1 d ρ 220 [am_r 110] h48 (fun v50 h49 =>
              (0 ≤ v45 ∧ v45 < (18000 : Int)) ∧ ak_MV e 1 d ρ 209 [am_r 110, am_i 44] ((am_up h49.1 117 v45.toNat v50), h49.2) (fun h51 =>
                ak_MI e 1 d ρ 235 [am_r 110] h51 (fun v53 h52 =>
                  (0 ≤ v45 ∧ v45 < (18000 : Int)) ∧ ak_MV e 1 d ρ 209 [am_r 110, am_i 59] ((am_up h52.1 118 v45.toNat v53), h52.2) (fun h54 =>
                    Q v45 h54) (fun _ _ => False)) (fun _ _ => False)) (fun _ _ => False)) (fun _ _ => False)) (fun _ _ => False)) (fun _ _ => False)) (fun _ _ => False)) (fun _ _ => False)) : ak_MI e 1 (d + 1) ρ 233 [am_r 110] hm Q X :=
  ak_MI_of (Nat.le_of_ble_eq_true rfl) (am_k233_0 ⟨trivial, fun q => absurd q (by rw [hk]; decide), fun q => absurd (hk.symm.trans q) (by decide), fun q => absurd (hk.symm.trans q) (by decide), fun q => absurd (hk.symm.trans q) (by decide), fun q => absurd (hk.symm.trans q) (by decide), fun q => absurd (hk.symm.trans q) (by decide), fun q => absurd (hk.symm.trans q) (by decide), fun q => absurd (hk.symm.trans q) (by decide), fun q => absurd (hk.symm.trans q) (by decide), fun q => absurd (hk.symm.trans q) (by decide), fun q => absurd (hk.symm.trans q) (by decide), fun q => absurd (hk.symm.trans q) (by decide), fun q => absurd (hk.symm.trans q) (by decide), fun q => absurd (hk.symm.trans q) (by decide), fun _ => g, fun q => absurd (hk.symm.trans q) (by decide), fun q => absurd (hk.symm.trans q) (by decide), fun q => absurd (hk.symm.trans q) (by decide), trivial⟩)
theorem am_p233_215 {Q : Int → ak_S → Prop} {X : Nat → ak_S → Prop} (hk : hm.1 110 33 = 215) (g :
    ak_MV e 1 d ρ 205 [am_r 110] hm (fun h55 =>
      ak_MI e 1 d ρ 212 [am_r 110, am_i 26, am_i (hm.1 110 34)] h55 (fun v57 h56 =>
        ak_MI e 1 d ρ 222 [am_r 110] h56 (fun v59 h58 =>
          (0 ≤ v57 ∧ v57 < (18000 : Int)) ∧ ak_MV e 1 d ρ 209 [am_r 110, am_i 44] ((am_up h58.1 115 v57.toNat v59), h58.2) (fun h60 =>
            ak_MI e 1 d ρ 220 [am_r 110] h60 (fun v62 h61 =>
              (0 ≤ v57 ∧ v57 < (18000 : Int)) ∧ ak_MV e 1 d ρ 209 [am_r 110, am_i 59] ((am_up h61.1 117 v57.toNat v62), h61.2) (fun h63 =>
                Q v57 h63) (fun _ _ => False)) (fun _ _ => False)) (fun _ _ => False)) (fun _ _ => False)) (fun _ _ => False)) (fun _ _ => False)) : ak_MI e 1 (d + 1) ρ 233 [am_r 110] hm Q X :=
  ak_MI_of (Nat.le_of_ble_eq_true rfl) (am_k233_0 ⟨trivial, fun q => absurd q (by rw [hk]; decide), fun q => absurd (hk.symm.trans q) (by decide), fun q => absurd (hk.symm.trans q) (by decide), fun q => absurd (hk.symm.trans q) (by decide), fun q => absurd (hk.symm.trans q) (by decide), fun q => absurd (hk.symm.trans q) (by decide), fun q => absurd (hk.symm.trans q) (by decide), fun q => absurd (hk.symm.trans q) (by decide), fun q => absurd (hk.symm.trans q) (by decide), fun q => absurd (hk.symm.trans q) (by decide), fun q => absurd (hk.symm.trans q) (by decide), fun q => absurd (hk.symm.trans q) (by decide), fun q => absurd (hk.symm.trans q) (by decide), fun q => absurd (hk.symm.trans q) (by decide), fun q => absurd (hk.symm.trans q) (by decide), fun _ => g, fun q => absurd (hk.symm.trans q) (by decide), fun q => absurd (hk.symm.trans q) (by decide), trivial⟩)
theorem am_p233_212 {Q : Int → ak_S → Prop} {X : Nat → ak_S → Prop} (hk : hm.1 110 33 = 212) (g :
    ak_W0 e 1 d 233 ρ 193 [some (am_r 110), some (am_i (hm.1 110 34)), none, none, none, none, none, none] [am_i 1] hm (ak_qi Q X)) : ak_MI e 1 (d + 1) ρ 233 [am_r 110] hm Q X :=
  ak_MI_of (Nat.le_of_ble_eq_true rfl) (am_k233_0 ⟨trivial, fun q => absurd q (by rw [hk]; decide), fun q => absurd (hk.symm.trans q) (by decide), fun q => absurd (hk.symm.trans q) (by decide), fun q => absurd (hk.symm.trans q) (by decide), fun q => absurd (hk.symm.trans q) (by decide), fun q => absurd (hk.symm.trans q) (by decide), fun q => absurd (hk.symm.trans q) (by decide), fun q => absurd (hk.symm.trans q) (by decide), fun q => absurd (hk.symm.trans q) (by decide), fun q => absurd (hk.symm.trans q) (by decide), fun q => absurd (hk.symm.trans q) (by decide), fun q => absurd (hk.symm.trans q) (by decide), fun _ => ⟨fun q => absurd hk q, fun _ => g⟩, fun q => absurd (hk.symm.trans q) (by decide), fun q => absurd (hk.symm.trans q) (by decide), fun q => absurd (hk.symm.trans q) (by decide), fun q => absurd (hk.symm.trans q) (by decide), fun q => absurd (hk.symm.trans q) (by decide), trivial⟩)
theorem am_p233_213 {Q : Int → ak_S → Prop} {X : Nat → ak_S → Prop} (hk : hm.1 110 33 = 213) (g :
    ak_W0 e 1 d 233 ρ 193 [some (am_r 110), some (am_i (hm.1 110 34)), none, none, none, none, none, none] [am_i 0] hm (ak_qi Q X)) : ak_MI e 1 (d + 1) ρ 233 [am_r 110] hm Q X :=
  ak_MI_of (Nat.le_of_ble_eq_true rfl) (am_k233_0 ⟨trivial, fun q => absurd q (by rw [hk]; decide), fun q => absurd (hk.symm.trans q) (by decide), fun q => absurd (hk.symm.trans q) (by decide), fun q => absurd (hk.symm.trans q) (by decide), fun q => absurd (hk.symm.trans q) (by decide), fun q => absurd (hk.symm.trans q) (by decide), fun q => absurd (hk.symm.trans q) (by decide), fun q => absurd (hk.symm.trans q) (by decide), fun q => absurd (hk.symm.trans q) (by decide), fun q => absurd (hk.symm.trans q) (by decide), fun q => absurd (hk.symm.trans q) (by decide), fun q => absurd (hk.symm.trans q) (by decide), fun q => absurd (hk.symm.trans q) (by decide), fun _ => ⟨fun _ => g, fun q => absurd (hk.symm.trans q) (by decide)⟩, fun q => absurd (hk.symm.trans q) (by decide), fun q => absurd (hk.symm.trans q) (by decide), fun q => absurd (hk.symm.trans q) (by decide), fun q => absurd (hk.symm.trans q) (by decide), trivial⟩)
theorem am_p233_216 {Q : Int → ak_S → Prop} {X : Nat → ak_S → Prop} (hk : hm.1 110 33 = 216) (g :
    ak_W0 e 1 d 233 ρ 410 [some (am_r 110), some (am_i (hm.1 110 34)), none, none, none, none, none, none] [am_i 27, am_r 110] hm (ak_qi Q X)) : ak_MI e 1 (d + 1) ρ 233 [am_r 110] hm Q X :=
  ak_MI_of (Nat.le_of_ble_eq_true rfl) (am_k233_0 ⟨trivial, fun q => absurd q (by rw [hk]; decide), fun q => absurd (hk.symm.trans q) (by decide), fun q => absurd (hk.symm.trans q) (by decide), fun q => absurd (hk.symm.trans q) (by decide), fun q => absurd (hk.symm.trans q) (by decide), fun q => absurd (hk.symm.trans q) (by decide), fun q => absurd (hk.symm.trans q) (by decide), fun q => absurd (hk.symm.trans q) (by decide), fun q => absurd (hk.symm.trans q) (by decide), fun q => absurd (hk.symm.trans q) (by decide), fun q => absurd (hk.symm.trans q) (by decide), fun q => absurd (hk.symm.trans q) (by decide), fun q => absurd (hk.symm.trans q) (by decide), fun q => absurd (hk.symm.trans q) (by decide), fun q => absurd (hk.symm.trans q) (by decide), fun q => absurd (hk.symm.trans q) (by decide), fun _ => ⟨fun q => absurd hk q, fun _ => g⟩, fun q => absurd (hk.symm.trans q) (by decide), trivial⟩)
theorem am_p233_217 {Q : Int → ak_S → Prop} {X : Nat → ak_S → Prop} (hk : hm.1 110 33 = 217) (g :
    ak_W0 e 1 d 233 ρ 410 [some (am_r 110), some (am_i (hm.1 110 34)), none, none, none, none, none, none] [am_i 28, am_r 110] hm (ak_qi Q X)) : ak_MI e 1 (d + 1) ρ 233 [am_r 110] hm Q X :=
  ak_MI_of (Nat.le_of_ble_eq_true rfl) (am_k233_0 ⟨trivial, fun q => absurd q (by rw [hk]; decide), fun q => absurd (hk.symm.trans q) (by decide), fun q => absurd (hk.symm.trans q) (by decide), fun q => absurd (hk.symm.trans q) (by decide), fun q => absurd (hk.symm.trans q) (by decide), fun q => absurd (hk.symm.trans q) (by decide), fun q => absurd (hk.symm.trans q) (by decide), fun q => absurd (hk.symm.trans q) (by decide), fun q => absurd (hk.symm.trans q) (by decide), fun q => absurd (hk.symm.trans q) (by decide), fun q => absurd (hk.symm.trans q) (by decide), fun q => absurd (hk.symm.trans q) (by decide), fun q => absurd (hk.symm.trans q) (by decide), fun q => absurd (hk.symm.trans q) (by decide), fun q => absurd (hk.symm.trans q) (by decide), fun q => absurd (hk.symm.trans q) (by decide), fun q => absurd (hk.symm.trans q) (by decide), fun _ => ⟨fun _ => g, fun q => absurd (hk.symm.trans q) (by decide)⟩, trivial⟩)
theorem am_p233_0 {Q : Int → ak_S → Prop} {X : Nat → ak_S → Prop} (hk : ∀ k : Int, 201 ≤ k → k ≤ 217 → k ≠ 203 → k ≠ 210 → k ≠ 211 → hm.1 110 33 ≠ k) (g :
    ak_W0 e 1 d 233 ρ 711 [some (am_r 110), some (am_i (hm.1 110 34)), none, none, none, none, none, none] [] hm (ak_qi Q X)) : ak_MI e 1 (d + 1) ρ 233 [am_r 110] hm Q X :=
  ak_MI_of (Nat.le_of_ble_eq_true rfl) (am_k233_0 ⟨trivial, fun _ => g, fun q => absurd q (hk 201 (by decide) (by decide) (by decide) (by decide) (by decide)), fun q => absurd q (hk 202 (by decide) (by decide) (by decide) (by decide) (by decide)), fun _ => g, fun q => absurd q (hk 204 (by decide) (by decide) (by decide) (by decide) (by decide)), fun q => absurd q (hk 205 (by decide) (by decide) (by decide) (by decide) (by decide)), fun q => absurd q (hk 206 (by decide) (by decide) (by decide) (by decide) (by decide)), fun q => absurd q (hk 207 (by decide) (by decide) (by decide) (by decide) (by decide)), fun q => absurd q (hk 208 (by decide) (by decide) (by decide) (by decide) (by decide)), fun q => absurd q (hk 209 (by decide) (by decide) (by decide) (by decide) (by decide)), fun _ => g, fun _ => g, fun q => absurd q (hk 212 (by decide) (by decide) (by decide) (by decide) (by decide)), fun q => absurd q (hk 213 (by decide) (by decide) (by decide) (by decide) (by decide)), fun q => absurd q (hk 214 (by decide) (by decide) (by decide) (by decide) (by decide)), fun q => absurd q (hk 215 (by decide) (by decide) (by decide) (by decide) (by decide)), fun q => absurd q (hk 216 (by decide) (by decide) (by decide) (by decide) (by decide)), fun q => absurd q (hk 217 (by decide) (by decide) (by decide) (by decide) (by decide)), trivial⟩)
end P233
