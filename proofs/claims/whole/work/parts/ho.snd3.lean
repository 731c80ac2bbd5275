/-! the run: what is not found -/
section SND3
variable {e : ak_X3} {d ρ1 ρ2 u us n N S O B Mt o i k A z y T0 T1 a f' hf m : Nat} {ρ : List Nat} {T : Nat → List (Int × Int)} {sh : Nat → Nat} {h h1 h2 h3 hc hm : ak_S} {s w nm pl ho stt : Int} {X : Nat → ak_S → Prop}
theorem am_s289 {Q : Int → ak_S → Prop} (e132 : h.1 110 132 = (m : Int)) (m2 : m ≤ 370000) (ok : ∀ x, x < m → h.1 201 x = 8 → 0 ≤ h.1 202 x ∧ h.1 202 x < 564) (q1 : (∃ x, x < m ∧ h.1 201 x = 8 ∧ h.1 176 (h.1 202 x).toNat ≠ 0) → Q 1 h) (q0 : (∀ x, x < m → h.1 201 x = 8 → h.1 176 (h.1 202 x).toNat = 0) → Q 0 h) : ak_MI e 1 (d + 1) ρ 289 [am_r 110] h Q X := by
  have lp : ∀ (b x : Nat), x + b = m → (∀ y, y < x → h.1 201 y = 8 → h.1 176 (h.1 202 y).toNat = 0) → ak_W0 e 1 d 289 ρ 2 [some (am_r 110), some (am_i (x : Int))] [] h (ak_qi Q X) := by
    intro b
    induction b with
    | zero =>
      intro x hx hy
      have : x = m := by omega
      subst this
      refine am_k289_2 ⟨fun _ => ⟨Or.inl rfl, q0 hy⟩, fun z => absurd z (by omega)⟩
    | succ b ih =>
      intro x hx hy
      have bx : 0 ≤ (x : Int) ∧ (x : Int) < 370000 := by omega
      refine am_k289_2 ⟨fun z => absurd z (by omega), fun _ => ?_⟩
      rw [ak_natn, ak_wj (show x < 1000000 by omega)]
      refine ⟨bx, fun g => ih (x + 1) (by omega) (fun y hy1 hy2 => ?_), fun g => ⟨bx, ok x (by omega) g, fun g2 => ih (x + 1) (by omega) (fun y hy1 hy2 => ?_), fun g2 => ⟨Or.inr rfl, q1 ⟨x, by omega, g, g2⟩⟩⟩⟩
      · by_cases hyx : y = x
        · subst hyx; exact absurd hy2 g
        · exact hy y (by omega) hy2
      · by_cases hyx : y = x
        · subst hyx; exact g2
        · exact hy y (by omega) hy2
  exact ak_MI_of (Nat.le_of_ble_eq_true rfl) (am_k289_0 (lp m 0 (by omega) (fun y hy => absurd hy (Nat.not_lt_zero _))))
/-- the one -/
theorem am_s90 {Q : Int → ak_S → Prop} (hu : u = 0 ∨ u = 1) (o2 : o < 200) (h34 : h.1 34 o = (a : Int)) (lk : ∀ (Q : ak_S → Prop) (X : Nat → ak_S → Prop), Q h3 → ak_MV e 0 (d + 2) (ak_rc u ρ1 ρ2) 164 [am_r 33, am_i (a : Int), am_i 0, am_i 0] h Q X) (p1 : h3.1 33 9 = pl) (p2 : h3.1 33 10 = ho) (hM : h3.1 (ak_T u) 4 = (Mt : Int)) (hM2 : Mt ≤ 40) (hn : n ≤ 4) (h10 : h3.1 32 10 = ((A + n + 1 : Nat) : Int)) (hA : A + n + 1 ≤ 9060)
    (D : (pl < 0 ∧ ak_MV e 0 (d + 2) (ak_rc u ρ1 ρ2) 77 [am_r 32, am_i 1, am_i 1, am_l nm] h3 (fun h' => Q (-1) h') (fun _ _ => False)) ∨ (0 ≤ pl ∧ ∃ z : Nat, z < 2400 ∧ (∀ (Q : Int → ak_S → Prop) (X : Nat → ak_S → Prop), Q (z : Int) h3 → ak_MI e 0 (d + 2) (ak_rc u ρ1 ρ2) 88 [am_r 32, am_i (o : Int), am_i 0, am_i pl, am_i ho] h3 Q X) ∧
      ((h3.1 35 z ≠ 4 ∧ ak_MV e 0 (d + 2) (ak_rc u ρ1 ρ2) 77 [am_r 32, am_i 1, am_i 1, am_l nm] h3 (fun h' => Q (-1) h') (fun _ _ => False)) ∨ (h3.1 35 z = 4 ∧ ∃ m : Nat, m < Mt ∧ h3.2.1 36 z = (m : Int) ∧ ((0 < h3.1 69 8 ∨ h3.1 (ak_T u + 12) m ≠ 2) → ak_MV e 0 (d + 2) (ak_rc u ρ1 ρ2) 77 [am_r 32, am_i 1, am_i 1, am_l nm] h3 (fun h' => Q (-1) h') (fun _ _ => False)) ∧
        (h3.1 69 8 ≤ 0 → h3.1 (ak_T u + 12) m = 2 → Q (m : Int) (am_up (am_up (am_up (am_up (ak_psC (ak_psC (am_up h3.1 32 10 ((A + 1 : Nat) : Int), h3.2) (A + 1) 1 nm) (A + 2) 1 (n : Int)).1 32 13 2) 32 14 pl) 32 15 ho) 32 16 1, (ak_psC (ak_psC (am_up h3.1 32 10 ((A + 1 : Nat) : Int), h3.2) (A + 1) 1 nm) (A + 2) 1 (n : Int)).2)))))) : ak_MI e 0 (d + 3) (ak_rc u ρ1 ρ2) 90 [am_r 32, am_i nm, am_i (n : Int), am_i (o : Int)] h Q X := by
  refine ak_MI_of (Nat.le_of_ble_eq_true rfl) (am_k90_0 hu ?_)
  rw [ak_natn, h34]
  refine ⟨by omega, lk _ _ ?_⟩
  rw [p1, p2]
  rcases D with ⟨g0, fl⟩ | ⟨g0, z, hz, r88, fz⟩
  · exact ⟨fun z => absurd z (by omega), fun _ => am_k90_56 hu ⟨fun _ => fl, fun z => absurd z (by decide)⟩⟩
  · refine ⟨fun _ => r88 _ _ (am_s89 (d := d + 1) hu hz hM hM2 (fun g4 => ?_) (fun g4 => ?_)), fun z => absurd z (by omega)⟩
    · rcases fz with ⟨_, fl⟩ | ⟨f, _⟩
      · exact am_k90_56 hu ⟨fun _ => fl, fun z => absurd z (by decide)⟩
      · exact absurd f g4
    · rcases fz with ⟨f, _⟩ | ⟨_, m, m1, m2, fl, ok⟩
      · exact absurd g4 f
      · refine ⟨m, m1, m2, am_k90_56 hu ⟨fun z => absurd z (by omega), fun _ => ⟨fun g5 => fl (Or.inl g5), fun g5 => ?_⟩⟩⟩
        rw [ak_natn, h10, show am_w32 (((A + n + 1 : Nat) : Int) - (n : Int)) = ((A + 1 : Nat) : Int) from by rw [ak_w _ (by omega)]; omega]
        refine ⟨by omega, fun g6 => am_s73 (d := d + 1) (n := A + 1) hu ak_up_at1 (by omega) (am_s73 (d := d + 1) (n := A + 2) hu ak_psC_v.2.2 (by omega) ?_), fun g6 => fl (Or.inr g6)⟩
        have e9 : (ak_psC (ak_psC (am_up h3.1 32 10 ((A + 1 : Nat) : Int), h3.2) (A + 1) 1 nm) (A + 2) 1 (n : Int)).1 33 9 = pl := (ak_psC_o (by omega) (by omega)).trans ((ak_psC_o (by omega) (by omega)).trans ((ak_up_out1 (by omega)).trans p1))
        have e10 : (ak_psC (ak_psC (am_up h3.1 32 10 ((A + 1 : Nat) : Int), h3.2) (A + 1) 1 nm) (A + 2) 1 (n : Int)).1 33 10 = ho := (ak_psC_o (by omega) (by omega)).trans ((ak_psC_o (by omega) (by omega)).trans ((ak_up_out1 (by omega)).trans p2))
        rw [e9, e10]
        exact ⟨Or.inr rfl, ok g5 g6⟩
/-- the other -/
theorem am_s290 {Q : ak_S → Prop} (o2 : o < 200) (y18 : y < 18000) (hi : i < 150) (h118 : h.1 118 y = (i : Int)) (h3' : h.1 110 3 = (us : Int)) (us2 : us < 2) (hnm : h.1 129 (150 * us + i) = nm) (h142 : h.1 142 o = (a : Int)) (lk : ∀ (Q : ak_S → Prop) (X : Nat → ak_S → Prop), Q h3 → ak_MV e 1 (d + 3) ρ 251 [am_r 110, am_i (a : Int), am_i 0, am_i 0] h Q X) (p1 : h3.1 110 69 = pl) (p2 : h3.1 110 70 = ho) (g3 : h3.1 110 3 = (us : Int))
    (D : (pl < 0 ∧ ak_MV e 1 (d + 3) ρ 269 [am_r 110, am_i 1, am_i 1, am_l nm] h3 Q (fun _ _ => False)) ∨ (0 ≤ pl ∧ ∃ ih z : Nat, (if pl = 0 then (o : Int) else ho) = (ih : Int) ∧ z < 2400 ∧ (∀ (Q : Int → ak_S → Prop) (X : Nat → ak_S → Prop), Q (z : Int) h3 → ak_MI e 1 (d + 3) ρ 238 [am_r 110, am_i (ih : Int), am_i 0, am_i 0] h3 Q X) ∧
      ((h3.1 143 z = 0 ∧ ak_MV e 1 (d + 3) ρ 269 [am_r 110, am_i 1, am_i 1, am_l nm] h3 Q (fun _ _ => False)) ∨ (h3.1 143 z = 1 ∧ ∃ m : Nat, m < 40 ∧ h3.2.1 146 z = (m : Int) ∧ (h3.1 126 (40 * us + m) ≠ 2 → ak_MV e 1 (d + 3) ρ 269 [am_r 110, am_i 1, am_i 1, am_l nm] h3 Q (fun _ _ => False)) ∧
        (h3.1 126 (40 * us + m) = 2 → ak_MI e 1 (d + 3) ρ 289 [am_r 110] h3 (fun v h' => (v ≠ 0 → ak_MV e 1 (d + 3) ρ 269 [am_r 110, am_i 1, am_i 1, am_l nm] h' Q (fun _ _ => False)) ∧ (v = 0 → h' = h3 ∧ ak_MI e 1 (d + 3) ρ 275 [am_r 110, am_i (m : Int), am_i s, am_l w, am_i pl, am_i ho] (am_up h3.1 110 127 (T0 : Int), h3.2) (fun v2 h1 => (0 ≤ v2 → (0 ≤ v2 ∧ v2 < 564) ∧ ak_MV e 1 (d + 3) ρ 274 [am_r 110, am_i v2, am_i 0, am_i 1, am_l nm] (am_up h1.1 176 v2.toNat 1, h1.2) (fun h4 => ak_MV e 1 (d + 3) ρ 274 [am_r 110, am_i v2, am_i 1, am_i 1, am_l (n : Int)] h4 Q (fun _ _ => False)) (fun _ _ => False)) ∧ (v2 < 0 → Q h1)) (fun _ _ => False))) (fun _ _ => False)))))) : ak_MV e 1 (d + 4) ρ 290 [am_r 110, am_i (y : Int), am_i (o : Int), am_i s, am_l w, am_i (n : Int), am_i (T0 : Int)] h Q X := by
  have L121 : ∀ y9 : Int, ak_MV e 1 (d + 3) ρ 269 [am_r 110, am_i 1, am_i 1, am_l nm] h3 Q (fun _ _ => False) → ak_W0 e 1 (d + 3) 290 ρ 121 [some (am_r 110), none, none, some (am_i s), some (am_l w), none, some (am_i (n : Int)), some (am_i (T0 : Int)), some (am_i nm), some (am_i y9), none, none] [am_i 0] h3 (ak_qv Q X) := fun y9 fl => am_k290_121 ⟨fun z => absurd rfl z, fun _ => fl⟩
  refine ak_MV_of (Nat.le_of_ble_eq_true rfl) (am_k290_0 ?_)
  rw [ak_natn, h118, h3', ak_is us2 hi, ak_natn, ak_natn, hnm, h142]
  refine ⟨by omega, by omega, by omega, lk _ _ ?_⟩
  rw [p1, p2]
  rcases D with ⟨g0, fl⟩ | ⟨g0, ih, z, eih, hz, r238, fz⟩
  · exact ⟨fun z => absurd z (by omega), fun _ => am_k290_66 ⟨fun _ => L121 _ fl, fun z => absurd z (by decide)⟩⟩
  · have bz : 0 ≤ (z : Int) ∧ (z : Int) < 2400 := by omega
    have L66 : ak_W0 e 1 (d + 3) 290 ρ 66 [some (am_r 110), none, none, some (am_i s), some (am_l w), none, some (am_i (n : Int)), some (am_i (T0 : Int)), some (am_i nm), none, none, none] [am_i (z : Int)] h3 (ak_qv Q X) := by
      refine am_k290_66 ⟨fun z => absurd z (by omega), fun _ => ?_⟩
      rw [ak_natn]
      rcases fz with ⟨f0, fl⟩ | ⟨f0, m, m1, m2, fl, ok⟩
      · exact ⟨bz, fun _ => L121 _ fl, fun z => absurd z (by omega)⟩
      · refine ⟨bz, fun z => absurd f0 z, fun _ => ?_⟩
        rw [m2, g3, ak_w (m : Int) (by omega), ak_im us2 m1, ak_natn]
        refine ⟨bz, by omega, fun g => L121 _ (fl g), fun g => ak_MI_imp (ok g) (fun v h' q => ?_) (fun _ _ q => q)⟩
        refine ⟨fun g2 => am_k290_121 ⟨fun z => absurd rfl z, fun _ => q.1 g2⟩, fun g2 => am_k290_121 ⟨fun _ => ?_, fun z => absurd z (by decide)⟩⟩
        obtain ⟨rfl, q2⟩ := q.2 g2
        rw [ak_natn, m2, p1, p2, ak_w (m : Int) (by omega)]
        refine ⟨bz, ak_MI_imp q2 (fun v2 h1 q3 => ⟨fun g3 => ⟨⟨(q3.1 g3).1, Or.inr rfl⟩, (q3.1 g3).2⟩, q3.2⟩) (fun _ _ q => q)⟩
    refine ⟨fun _ => ⟨fun g1 => ?_, fun g1 => ?_⟩, fun z => absurd z (by omega)⟩
    · rw [if_neg g1] at eih
      rw [eih]
      exact r238 _ _ L66
    · rw [if_pos g1] at eih
      rw [eih]
      exact r238 _ _ L66
end SND3
