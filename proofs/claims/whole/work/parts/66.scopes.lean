/-! scopes, both sides -/
def ak_scp (b : Nat → Int) (n : Nat) (hc hm : ak_S) (s : Nat) (D : Nat) : Prop := D ≤ 12 ∧ hc.1 31 s = (D : Int) ∧ hm.1 138 s = (D : Int) ∧ ak_wds b n (fun k => hc.2.1 30 (12 * s + k)) (fun k => hm.1 139 (12 * s + k)) (fun k => hm.1 140 (12 * s + k)) D
def ak_scs (b : Nat → Int) (n : Nat) (hc hm : ak_S) (lv : Nat) (D : Nat → Nat) : Prop := hc.1 2 5 = (lv : Int) ∧ lv ≤ 20 ∧ hm.1 110 42 = ((lv + 1 : Nat) : Int) ∧ ∀ s, s ≤ lv → ak_scp b n hc hm s (D s)
/-- where a word is found: the scope, -1 for none; F: its place in each -/
def ak_rs (F : Nat → Int) : Nat → Int
  | 0 => -1
  | c + 1 => if 0 ≤ F c then (c : Int) else ak_rs F c
def ak_ff (hc : ak_S) (D : Nat → Nat) (w : Int) (s : Nat) : Int := ak_find (fun k => hc.2.1 30 (12 * s + k)) w (D s) 0
theorem ak_ff_in {hc : ak_S} {D : Nat → Nat} {w : Int} {s : Nat} : ak_ff hc D w s = -1 ∨ ∃ j : Nat, j < D s ∧ ak_ff hc D w s = (j : Int) := by
  rcases ak_find_in (f := fun k => hc.2.1 30 (12 * s + k)) (w := w) (D s) 0 with q | ⟨j, h1, h2, h3, -⟩
  · exact Or.inl q
  · exact Or.inr ⟨j, by omega, h3⟩
section SCOPES
variable {e : ak_X3} {d : Nat} {ρ : List Nat} {b : Nat → Int} {n p : Nat} {hc hm : ak_S} {lv : Nat} {D : Nat → Nat}
theorem ak_wsub1 {s : Nat} (h : s < 1000000) : am_w32 ((s : Int) + (-1)) = (s : Int) - 1 := by
  rw [ak_w ((s : Int) + (-1)) (by omega)]
  omega
theorem ak_wrch {lv s k : Nat} (h : s ≤ lv) (h2 : lv ≤ 20) (hk : k < 12) : am_w32 (am_w32 (am_w32 ((lv : Int) - (s : Int)) * 16) + (k : Int)) = (((lv - s) * 16 + k : Nat) : Int) := by
  rw [ak_w ((lv : Int) - (s : Int)) (by omega), ak_w (((lv : Int) - (s : Int)) * 16) (by omega), ak_w (((lv : Int) - (s : Int)) * 16 + (k : Int)) (by omega)]
  omega
theorem am_s19 {ρ0 ρ3 ρ4 u : Nat} (hu : u = 0 ∨ u = 1) {Q : Int → ak_S → Prop} {X : Nat → ak_S → Prop} {w : Int} (sc : ak_scs b n hc hm lv D) (wno : ak_rs (ak_ff hc D w) (lv + 1) = -1 → Q (-1) hc)
    (wyes : ∀ s k : Nat, ak_rs (ak_ff hc D w) (lv + 1) = (s : Int) → s ≤ lv → ak_ff hc D w s = (k : Int) → k < 12 → Q (((lv - s) * 16 + k : Nat) : Int) hc) : ak_MI e 0 (d + 2) [ρ0, ak_T u, ak_T u + 1, ρ3, ρ4] 19 [am_r 2, am_l w] hc Q X := by
  obtain ⟨s1, s2, s3, s4⟩ := sc
  have lp : ∀ (c : Nat) (x : Int), x + 1 = (c : Int) → c ≤ lv + 1 → ak_rs (ak_ff hc D w) c = ak_rs (ak_ff hc D w) (lv + 1) → ak_W0 e 0 (d + 1) 19 [ρ0, ak_T u, ak_T u + 1, ρ3, ρ4] 5 [some (am_r 2), some (am_l w), none, some (am_i x), none] [] hc (ak_qi Q X) := by
    intro c
    induction c with
    | zero =>
      intro x hx hc' he
      exact am_k19_5 hu ⟨fun _ => wno he.symm, fun q => absurd q (by omega)⟩
    | succ c ih =>
      intro x hx hc' he
      have hxc : x = (c : Int) := by omega
      subst hxc
      obtain ⟨d1, d2, d3, d4⟩ := s4 c (by omega)
      refine am_k19_5 hu ⟨fun q => absurd q (by omega), fun _ => am_s18 hu (show c < 21 by omega) d2 d1 ⟨fun q => ?_, fun q => ?_⟩⟩
      · have q2 : ¬ 0 ≤ ak_ff hc D w c := by unfold ak_ff; omega
        have he2 : ak_rs (ak_ff hc D w) (c + 1) = ak_rs (ak_ff hc D w) c := if_neg q2
        rw [ak_wsub1 (show c < 1000000 by omega)]
        exact ih _ (by omega) (by omega) (he2.symm.trans he)
      · have q2 : 0 ≤ ak_ff hc D w c := q
        have he2 : ak_rs (ak_ff hc D w) (c + 1) = (c : Int) := if_pos q2
        rcases ak_ff_in (hc := hc) (D := D) (w := w) (s := c) with q3 | ⟨j, q3, q4⟩
        · omega
        · have q5 : ak_find (fun k => hc.2.1 30 (12 * c + k)) w (D c) 0 = (j : Int) := q4
          have hj : j < 12 := by omega
          rw [q5, s1, ak_wrch (show c ≤ lv by omega) s2 hj]
          exact wyes c j (he.symm.trans he2) (by omega) q4 hj
  refine ak_MI_of (Nat.le_of_ble_eq_true rfl) (am_k19_0 hu ?_)
  rw [s1]
  exact lp (lv + 1) (lv : Int) (by omega) (Nat.le_refl _) rfl
theorem ak_wlv {lv : Nat} (h : lv ≤ 20) : am_w32 (((lv + 1 : Nat) : Int) - 1) = (lv : Int) := by
  rw [ak_w (((lv + 1 : Nat) : Int) - 1) (by omega)]
  omega
theorem am_s217 {Q : ak_S → Prop} {X : Nat → ak_S → Prop} {i z : Nat} (sc : ak_scs b n hc hm lv D) (mt : ak_mt hm p n b) (hf : hm.1 110 37 < 0) (htok : hm.1 110 33 = 2) (hi : hm.1 110 34 = (i : Int)) (hz : hm.1 110 35 = (z : Int)) (w : ak_wd b n i z)
    (wno : ak_rs (ak_ff hc D (ak_pk b i z)) (lv + 1) = -1 → Q (ak_wr hm))
    (wyes : ∀ s k : Nat, ak_rs (ak_ff hc D (ak_pk b i z)) (lv + 1) = (s : Int) → s ≤ lv → ak_ff hc D (ak_pk b i z) s = (k : Int) → k < 12 → Q (am_up (am_up hm.1 110 43 ((lv - s : Nat) : Int)) 110 44 (k : Int), hm.2)) : ak_MV e 1 (d + 4) ρ 217 [am_r 110] hm Q X := by
  obtain ⟨s1, s2, s3, s4⟩ := sc
  have lp : ∀ (c : Nat) (x : Int), x + 1 = (c : Int) → c ≤ lv + 1 → ak_rs (ak_ff hc D (ak_pk b i z)) c = ak_rs (ak_ff hc D (ak_pk b i z)) (lv + 1) → ak_W0 e 1 (d + 3) 217 ρ 32 [some (am_r 110), some (am_i x), none] [] hm (ak_qv Q X) := by
    intro c
    induction c with
    | zero =>
      intro x hx hc' he
      exact am_k217_32 ⟨fun _ => am_s207 (fun _ => wno he.symm) (fun q => absurd q (by omega)), fun q => absurd q (by omega)⟩
    | succ c ih =>
      intro x hx hc' he
      have hxc : x = (c : Int) := by omega
      subst hxc
      obtain ⟨d1, d2, d3, d4⟩ := s4 c (by omega)
      refine am_k217_32 ⟨fun q => absurd q (by omega), fun _ => ?_⟩
      rw [hi, hz]
      refine am_s214 mt (show c < 21 by omega) d3 d1 d4 w ⟨fun q => ?_, fun q => ?_⟩
      · have q2 : 0 ≤ ak_ff hc D (ak_pk b i z) c := q
        have he2 : ak_rs (ak_ff hc D (ak_pk b i z)) (c + 1) = (c : Int) := if_pos q2
        rcases ak_ff_in (hc := hc) (D := D) (w := ak_pk b i z) (s := c) with q3 | ⟨j, q3, q4⟩
        · omega
        · have q5 : ak_find (fun k => hc.2.1 30 (12 * c + k)) (ak_pk b i z) (D c) 0 = (j : Int) := q4
          have hj : j < 12 := by omega
          rw [q5, s3, ak_wlv s2, ak_wsub (show c ≤ lv by omega) (by omega)]
          exact wyes c j (he.symm.trans he2) (by omega) q4 hj
      · have q2 : ¬ 0 ≤ ak_ff hc D (ak_pk b i z) c := by unfold ak_ff; omega
        have he2 : ak_rs (ak_ff hc D (ak_pk b i z)) (c + 1) = ak_rs (ak_ff hc D (ak_pk b i z)) c := if_neg q2
        rw [ak_wsub1 (show c < 1000000 by omega)]
        exact ih _ (by omega) (by omega) (he2.symm.trans he)
  refine ak_MV_of (Nat.le_of_ble_eq_true rfl) (am_k217_0 (am_s206 (fun _ => ⟨fun _ => ⟨fun _ => ?_, fun q => absurd htok q⟩, fun q => absurd rfl q⟩) (fun q => absurd q (by omega))))
  rw [s3, ak_wlv s2]
  exact lp (lv + 1) (lv : Int) (by omega) (Nat.le_refl _) rfl
/-- whether a word may be declared -/
def ak_may (hc : ak_S) (D : Nat → Nat) (lv : Nat) (kd w : Int) : Prop := kd = 2 ∧ D lv < 12 ∧ ak_ff hc D w lv < 0
theorem am_s16 {ρ0 ρ3 ρ4 u : Nat} (hu : u = 0 ∨ u = 1) {Q : ak_S → Prop} {X : Nat → ak_S → Prop} (sc : ak_scs b n hc hm lv D) (w1 : ak_may hc D lv (hc.1 3 8) (hc.2.1 3 10) → Q hc) (w0 : ¬ ak_may hc D lv (hc.1 3 8) (hc.2.1 3 10) → X 0 (ak_th hc)) :
    ak_MV e 0 (d + 2) [ρ0, ak_T u, ak_T u + 1, ρ3, ρ4] 16 [am_r 2] hc Q X := by
  obtain ⟨s1, s2, s3, s4⟩ := sc
  obtain ⟨d1, d2, d3, d4⟩ := s4 lv (Nat.le_refl _)
  have b1 : 0 ≤ (lv : Int) ∧ (lv : Int) < 21 := by omega
  refine ak_MV_of (Nat.le_of_ble_eq_true rfl) (am_k16_0 hu ⟨fun q => am_s10 hu (fun q2 => absurd rfl q2) (fun _ => w0 (fun z => q z.1)), fun q => ?_⟩)
  rw [s1, ak_natn, d2]
  refine ⟨b1, fun q2 => am_s10 hu (fun q2 => absurd rfl q2) (fun _ => w0 (fun z => absurd z.2.1 (by omega))), fun q2 => ?_⟩
  refine am_s18 hu (show lv < 21 by omega) d2 d1 ⟨fun q3 => am_s10 hu (fun q2 => absurd rfl q2) (fun _ => w0 (fun z => absurd z.2.2 (by unfold ak_ff; omega))), fun q3 => am_s10 hu (fun _ => w1 ⟨q, by omega, q3⟩) (fun z => absurd z (by decide))⟩
theorem am_s215 {Q : ak_S → Prop} {X : Nat → ak_S → Prop} {i z : Nat} (sc : ak_scs b n hc hm lv D) (mt : ak_mt hm p n b) (hf : hm.1 110 37 < 0) (hi : hm.1 110 34 = (i : Int)) (hz : hm.1 110 35 = (z : Int)) (w : hm.1 110 33 = 2 → ak_wd b n i z)
    (w1 : ak_may hc D lv (hm.1 110 33) (ak_pk b i z) → Q hm) (w0 : ¬ ak_may hc D lv (hm.1 110 33) (ak_pk b i z) → Q (ak_wr hm)) : ak_MV e 1 (d + 4) ρ 215 [am_r 110] hm Q X := by
  obtain ⟨s1, s2, s3, s4⟩ := sc
  obtain ⟨d1, d2, d3, d4⟩ := s4 lv (Nat.le_refl _)
  have b1 : 0 ≤ (lv : Int) ∧ (lv : Int) < 21 := by omega
  refine ak_MV_of (Nat.le_of_ble_eq_true rfl) (am_k215_0 (am_s206 (fun _ => ⟨fun _ => ⟨fun q => am_s207 (fun _ => w0 (fun z => q z.1)) (fun q => absurd q (by omega)), fun q => ?_⟩, fun q => absurd rfl q⟩) (fun q => absurd q (by omega))))
  rw [s3, ak_wlv s2, hi, hz]
  refine am_s214 mt (show lv < 21 by omega) d3 d1 d4 (w q) ⟨fun q3 => ?_, fun q3 => ?_⟩
  · rw [hi]
    have := w0 (fun z => absurd z.2.2 (by unfold ak_ff; omega))
    unfold ak_wr at this
    rw [hi] at this
    exact am_s207 (fun _ => this) (fun q => absurd q (by omega))
  · rw [s3, ak_wlv s2, ak_natn, d3]
    refine ⟨b1, fun q4 => w1 ⟨q, by omega, q3⟩, fun q4 => ?_⟩
    have := w0 (fun z => absurd z.2.1 (by omega))
    exact am_s207 (fun _ => this) (fun q => absurd q (by omega))
end SCOPES
