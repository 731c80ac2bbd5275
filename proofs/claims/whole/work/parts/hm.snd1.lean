/-! the run: what a send finds -/
/-- the object that stands for a value -/
def ak_ofv (s w : Int) : Int := if s = 2 then w else if s = 1 then 1 else if s = 3 then 2 else 3
section SND1
variable {e : ak_X3} {d ρ1 ρ2 u n S O B Mt o i k A z st so : Nat} {ρ : List Nat} {T : Nat → List (Int × Int)} {sh : Nat → Nat} {h h2 hc hm : ak_S} {s w nm pl ho stt mth a : Int} {X : Nat → ak_S → Prop}
set_option maxRecDepth 100000 in
theorem ak_i8_all : ∀ j : Fin 1200, (Int32.ofInt (j.1 : Int) >>> (Int32.ofInt 3 &&& 31)).toInt = ((j.1 / 8 : Nat) : Int) ∧ (Int32.ofInt (j.1 : Int) &&& Int32.ofInt 7).toInt = ((j.1 % 8 : Nat) : Int) := by decide +kernel
theorem ak_i8 (hi : i < 150) (hn : n ≤ 4) : (Int32.ofInt ((i : Int) * 8 + (n : Int)) >>> (Int32.ofInt 3 &&& 31)).toInt = (i : Int) ∧ (Int32.ofInt ((i : Int) * 8 + (n : Int)) &&& Int32.ofInt 7).toInt = (n : Int) := by
  obtain ⟨a1, a2⟩ := ak_i8_all ⟨8 * i + n, by omega⟩
  dsimp only at a1 a2
  rw [show (8 * i + n) / 8 = i by omega] at a1
  rw [show (8 * i + n) % 8 = n by omega] at a2
  rw [show (i : Int) * 8 + (n : Int) = ((8 * i + n : Nat) : Int) by omega]
  exact ⟨a1, a2⟩
theorem ak_ofv_ok (vk : ak_vok O B s w) (hO : 4 ≤ O) : ∃ o : Nat, ak_ofv s w = (o : Int) ∧ o < O := by
  unfold ak_ofv
  split
  · rename_i g
    have := vk.2.1 g
    exact ⟨w.toNat, by omega, by omega⟩
  · split
    · exact ⟨1, rfl, by omega⟩
    · split
      · exact ⟨2, rfl, by omega⟩
      · exact ⟨3, rfl, by omega⟩
theorem am_s152 {Q : Int → ak_S → Prop} (hO : h.1 33 0 = (O : Int)) (hO2 : O ≤ 200) (vk : ak_vok O B s w) (q : Q (ak_ofv s w) h) : ak_MI e 0 (d + 2) ρ 152 [am_r 33, am_i s, am_l w] h Q X := by
  refine ak_MI_of (Nat.le_of_ble_eq_true rfl) (am_k152_0 (am_s151 (d := d) hO hO2 vk (fun g => ⟨fun z => absurd (vk.2.1 g).1 (by omega), fun _ => ?_⟩) (fun g => ⟨fun _ => ⟨fun g1 => ⟨fun g3 => ?_, fun g3 => ?_⟩, fun g1 => ?_⟩, fun z => absurd z (by decide)⟩)))
  · unfold ak_ofv at q; rw [if_pos g] at q; exact q
  · unfold ak_ofv at q; rw [if_neg g, if_neg g1, if_neg g3] at q; exact q
  · unfold ak_ofv at q; rw [if_neg g, if_neg g1, if_pos g3] at q; exact q
  · unfold ak_ofv at q; rw [if_neg g, if_pos g1] at q; exact q
theorem am_s280v {Q : Int → ak_S → Prop} (hO2 : O ≤ 200) (vk : ak_vok O B s w) (q : Q (ak_ofv s w) h) : ak_MI e 1 (d + 1) ρ 280 [am_r 110, am_i s, am_l w] h Q X := by
  refine am_s280 (d := d) ?_
  have : (if s = 2 then am_w32 w else if s = 1 then 1 else if s = 3 then 2 else 3) = ak_ofv s w := by
    unfold ak_ofv
    by_cases g : s = 2
    · have := vk.2.1 g
      rw [if_pos g, if_pos g, ak_w w (by omega)]
    · rw [if_neg g, if_neg g]
  rw [this]
  exact q
/-- where it was found -/
theorem ak_lu_at (w : ak_WD S O B Mt T sh hc hm) (ho : o < O) (g : 0 ≤ (ak_lu T sh O (sh o) nm stt).1) : ∃ i, i < O ∧ (if (ak_lu T sh O (sh o) nm stt).1 = 0 then (o : Int) else (ak_lu T sh O (sh o) nm stt).2) = (i : Int) ∧ 0 ≤ ak_look (T (sh i)) nm false ∧ -1 ≤ (ak_lu T sh O (sh o) nm stt).2 ∧ (ak_lu T sh O (sh o) nm stt).2 < 200 := by
  obtain ⟨w1, w2, w3, ⟨w4, w5, w6⟩, w7⟩ := w
  rcases ak_lu_ok w1 (fun i hi => (w7 i hi).1) (w7 o ho).1 g with ⟨a, b, c⟩ | ⟨a, b, i, hi, c, f⟩ | a
  · have e1 : ak_lu T sh O (sh o) nm stt = (0, -1) := by unfold ak_lu; rw [if_pos ⟨b, c⟩]
    refine ⟨o, ho, if_pos a, c, ?_, ?_⟩
    · rw [e1]; decide
    · rw [e1]; decide
  · exact ⟨i, hi, by rw [if_neg (by omega)]; exact c, f, by omega, by omega⟩
  · omega
/-- the slot itself, on both sides -/
theorem ak_slot (w : ak_WD S O B Mt T sh hc hm) (hi : i < O) (g : 0 ≤ ak_look (T (sh i)) nm false) : ∃ k, k < 12 ∧ 12 * i + k < 2400 ∧ (∀ (e : ak_X3) (d : Nat) (ρ : List Nat) (Q : Int → ak_S → Prop) (X : Nat → ak_S → Prop), Q (k : Int) hc → ak_MI e 0 (d + 1) ρ 153 [am_r 33, am_i (sh i : Int), am_i nm] hc Q X) ∧ hc.1 34 i = (sh i : Int) ∧
    (∀ (e : ak_X3) (d : Nat) (ρ : List Nat) (Q : Int → ak_S → Prop) (X : Nat → ak_S → Prop), Q ((12 * i + k : Nat) : Int) hm → ak_MI e 1 (d + 1) ρ 238 [am_r 110, am_i (i : Int), am_i nm, am_i 0] hm Q X) ∧
    ((hm.1 143 (12 * i + k) = 0 ∧ hc.1 35 (12 * i + k) ≠ 4 ∧ hc.1 35 (12 * i + k) = hm.1 145 (12 * i + k) ∧ hc.2.1 36 (12 * i + k) = hm.2.1 146 (12 * i + k) ∧ ak_vok O B (hc.1 35 (12 * i + k)) (hc.2.1 36 (12 * i + k))) ∨ (hm.1 143 (12 * i + k) = 1 ∧ hc.1 35 (12 * i + k) = 4 ∧ ∃ m : Nat, m < Mt ∧ hc.2.1 36 (12 * i + k) = (m : Int) ∧ hm.2.1 146 (12 * i + k) = (m : Int))) := by
  obtain ⟨w1, w2, w3, ⟨w4, w5, w6⟩, w7⟩ := w
  obtain ⟨v1, v2, v3, v4, v5⟩ := w7 i hi
  obtain ⟨k, y, hk, e1, e2, e3, e4⟩ := ak_look_some g
  have l12 := (w1.2.1 (sh i) v1).1
  have S4 := w1.1.2.1
  have C := w2.2 (sh i) v1
  have y2 : y.1 ≠ 2 := fun z => by rw [z] at e4; exact absurd e4 (by decide)
  have yi := (w1.2.1 (sh i) v1).2 y (List.mem_of_getElem? e2)
  refine ⟨k, by omega, by omega, fun e d ρ Q X q => am_s153 (d := d) (n := (T (sh i)).length) (by omega) C.1 l12 ?_, v2, fun e d ρ Q X q => am_s238 (d := d) (n := (T (sh i)).length) (g := false) (w := nm) rfl (by omega) v4.1 l12 (fun z => ?_) (fun j hj z => ?_), ?_⟩
  · rw [ak_look_of C.2.1, e1]; exact q
  · rw [ak_look_of v4.2] at z; omega
  · rw [ak_look_of v4.2, e1] at z
    have : j = k := by omega
    rw [this]; exact q
  · have m3 := (v4.2 k y e2).1
    obtain ⟨h0, h1⟩ := v5 k y e2
    rcases (show y.1 = 0 ∨ y.1 = 1 by have := yi.1; have := yi.2.1; omega) with g0 | g1
    · obtain ⟨a1, a2, a3⟩ := h0 g0
      have a4 := a3.1.2
      exact Or.inl ⟨m3.trans g0, by omega, a1, a2, a3⟩
    · obtain ⟨a1, a2, a3, a4⟩ := h1 g1
      exact Or.inr ⟨m3.trans g1, a1, (hc.2.1 36 (12 * i + k)).toNat, by omega, by omega, by omega⟩
/-- the one's place of a slot -/
theorem am_s88 {Q : Int → ak_S → Prop} (hu : u = 0 ∨ u = 1) (hi : (if pl = 0 then (o : Int) else ho) = (i : Int)) (hi2 : i < 200) (hk : k < 12) (h34 : hc.1 34 i = (a : Int)) (r : ∀ (Q : Int → ak_S → Prop) (X : Nat → ak_S → Prop), Q (k : Int) hc → ak_MI e 0 (d + 1) (ak_rc u ρ1 ρ2) 153 [am_r 33, am_i a, am_i nm] hc Q X) (q : Q ((12 * i + k : Nat) : Int) hc) : ak_MI e 0 (d + 2) (ak_rc u ρ1 ρ2) 88 [am_r 32, am_i (o : Int), am_i nm, am_i pl, am_i ho] hc Q X := by
  have B : ∀ y0 : Int, y0 = (i : Int) → ak_W0 e 0 (d + 1) 88 (ak_rc u ρ1 ρ2) 10 [some (am_r 32), none, some (am_i nm), none, none, none] [am_i y0] hc (ak_qi Q X) := fun y0 hy => by
    subst hy
    refine am_k88_10 hu ⟨by omega, ?_⟩
    rw [ak_natn, h34]
    refine r _ _ ?_
    rw [show (if 0 < (k : Int) then (k : Int) else 0) = (k : Int) from by split <;> omega, show am_w32 (am_w32 ((i : Int) * 12) + (k : Int)) = ((12 * i + k : Nat) : Int) from by rw [ak_w ((i : Int) * 12) (by omega), ak_w _ (by omega)]; omega]
    exact q
  refine ak_MI_of (Nat.le_of_ble_eq_true rfl) (am_k88_0 hu ⟨fun g => B _ ?_, fun g => B _ ?_⟩)
  · rw [if_neg g] at hi; exact hi
  · rw [if_pos g] at hi; exact hi
/-- the one: is it a method? -/
theorem am_s89 {Q : Int → ak_S → Prop} (hu : u = 0 ∨ u = 1) (hz : z < 2400) (hM : h.1 (ak_T u) 4 = (Mt : Int)) (hM2 : Mt ≤ 40) (q0 : h.1 35 z ≠ 4 → Q (-1) h) (q1 : h.1 35 z = 4 → ∃ m : Nat, m < Mt ∧ h.2.1 36 z = (m : Int) ∧ Q (m : Int) h) : ak_MI e 0 (d + 1) (ak_rc u ρ1 ρ2) 89 [am_r 32, am_i (z : Int)] h Q X := by
  refine ak_MI_of (Nat.le_of_ble_eq_true rfl) (am_k89_0 hu ?_)
  rw [ak_natn]
  refine ⟨by omega, by omega, q0, fun g => ?_⟩
  obtain ⟨m, m1, m2, m3⟩ := q1 g
  rw [m2, hM]
  refine ⟨fun l => absurd (ak_lsign_lt.1.mp l) (by omega), fun _ => ⟨fun l => absurd (ak_lsign_lt.2.mp l) (by omega), fun _ => ?_⟩⟩
  rw [ak_w (m : Int) (by omega)]
  exact m3
end SND1
