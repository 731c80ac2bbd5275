/-! declaring a word; names, both sides -/
section NAMES
variable {e : ak_X3} {d : Nat} {ρ : List Nat} {b : Nat → Int} {n p : Nat} {hc hm : ak_S} {lv : Nat} {D : Nat → Nat}
/-- a word declared, on the one side, on the other -/
def ak_dcC (h : ak_S) (lv k : Nat) (w : Int) : ak_S := (am_up h.1 31 lv ((k + 1 : Nat) : Int), am_up h.2.1 30 (12 * lv + k) w, h.2.2)
def ak_dcM (h : ak_S) (lv k : Nat) (a z : Int) : ak_S := (am_up (am_up (am_up h.1 139 (12 * lv + k) a) 140 (12 * lv + k) z) 138 lv ((k + 1 : Nat) : Int), h.2)
theorem am_s17 {ρ0 ρ3 ρ4 u : Nat} (hu : u = 0 ∨ u = 1) {Q : Int → ak_S → Prop} {X : Nat → ak_S → Prop} {w : Int} (sc : ak_scs b n hc hm lv D) (hD : D lv < 12) (wq : Q (D lv : Int) (ak_dcC hc lv (D lv) w)) : ak_MI e 0 (d + 1) [ρ0, ak_T u, ak_T u + 1, ρ3, ρ4] 17 [am_r 2, am_l w] hc Q X := by
  obtain ⟨s1, s2, s3, s4⟩ := sc
  obtain ⟨d1, d2, d3, d4⟩ := s4 lv (Nat.le_refl _)
  have b1 : 0 ≤ (lv : Int) ∧ (lv : Int) < 21 := by omega
  have b2 : 0 ≤ ((12 * lv + D lv : Nat) : Int) ∧ ((12 * lv + D lv : Nat) : Int) < 252 := by omega
  refine ak_MI_of (Nat.le_of_ble_eq_true rfl) (am_k17_0 hu ?_)
  rw [s1, ak_natn, d2, ak_w12 (show 12 * lv + D lv < 1000000 by omega), ak_natn, ak_wj (show D lv < 1000000 by omega)]
  exact ⟨b1, b2, b1, b1, wq⟩
theorem am_s216 {Q : Int → ak_S → Prop} {X : Nat → ak_S → Prop} {a z : Int} (sc : ak_scs b n hc hm lv D) (hD : D lv < 12) (wq : Q (D lv : Int) (ak_dcM hm lv (D lv) a z)) : ak_MI e 1 (d + 1) ρ 216 [am_r 110, am_i a, am_i z] hm Q X := by
  obtain ⟨s1, s2, s3, s4⟩ := sc
  obtain ⟨d1, d2, d3, d4⟩ := s4 lv (Nat.le_refl _)
  have b1 : 0 ≤ (lv : Int) ∧ (lv : Int) < 21 := by omega
  have b2 : 0 ≤ ((12 * lv + D lv : Nat) : Int) ∧ ((12 * lv + D lv : Nat) : Int) < 252 := by omega
  refine ak_MI_of (Nat.le_of_ble_eq_true rfl) (am_k216_0 ?_)
  rw [s3, ak_wlv s2, ak_natn, d3, show am_w32 (am_w32 (12 * (lv : Int)) + (D lv : Int)) = ((12 * lv + D lv : Nat) : Int) from ak_wmul (c := 12) (by omega), ak_natn, ak_wj (show D lv < 1000000 by omega)]
  exact ⟨b1, b2, b2, b1, b1, wq⟩
theorem ak_scs_dc {i z : Nat} (sc : ak_scs b n hc hm lv D) (hD : D lv < 12) (w : ak_wd b n i z) : ak_scs b n (ak_dcC hc lv (D lv) (ak_pk b i z)) (ak_dcM hm lv (D lv) (i : Int) (z : Int)) lv (fun s => if s = lv then D lv + 1 else D s) := by
  obtain ⟨s1, s2, s3, s4⟩ := sc
  refine ⟨?_, s2, ?_, fun s hs => ?_⟩
  · rw [← s1]; simp [ak_dcC, am_up]
  · rw [← s3]; simp [ak_dcM, am_up]
  · obtain ⟨d1, d2, d3, d4⟩ := s4 s hs
    by_cases hsl : s = lv
    · subst hsl
      refine ⟨by simp; omega, by simp [ak_dcC, am_up], by simp [ak_dcM, am_up], fun k hk => ?_⟩
      dsimp only at hk
      rw [if_pos rfl] at hk
      by_cases hkD : k = D s
      · subst hkD
        exact ⟨i, z, w, by simp [ak_dcM, am_up], by simp [ak_dcM, am_up], by simp [ak_dcC, am_up]⟩
      · obtain ⟨i', z', w', g1, g2, g3⟩ := d4 k (by omega)
        refine ⟨i', z', w', ?_, ?_, ?_⟩
        · rw [← g1]; simp [ak_dcM, am_up, hkD]
        · rw [← g2]; simp [ak_dcM, am_up, hkD]
        · rw [← g3]; simp [ak_dcC, am_up, hkD]
    · refine ⟨by simp [hsl]; omega, ?_, ?_, fun k hk => ?_⟩
      · simp [ak_dcC, am_up, hsl, d2]
      · simp [ak_dcM, am_up, hsl, d3]
      · dsimp only at hk
        rw [if_neg hsl] at hk
        obtain ⟨i', z', w', g1, g2, g3⟩ := d4 k hk
        have hne : 12 * s + k ≠ 12 * lv + D lv := by omega
        refine ⟨i', z', w', ?_, ?_, ?_⟩
        · rw [← g1]; simp [ak_dcM, am_up, hne]
        · rw [← g2]; simp [ak_dcM, am_up, hne]
        · rw [← g3]; simp [ak_dcC, am_up, hne]
/-! names -/
def ak_lost : Int := 409204
def ak_nms (b : Nat → Int) (n u p : Nat) (hc hm : ak_S) (N : Nat) : Prop := 1 ≤ N ∧ N ≤ 100 ∧ hc.1 (ak_T u) 6 = (N : Int) ∧ hm.1 131 p = (N : Int) ∧ hc.2.1 (ak_T u + 14) 0 = ak_lost ∧
  ∀ x, 1 ≤ x → x < N → ∃ i z : Nat, ak_wd b n i z ∧ hm.1 132 (100 * p + x) = (i : Int) ∧ hm.1 133 (100 * p + x) = (z : Int) ∧ hc.2.1 (ak_T u + 14) x = ak_pk b i z
def ak_nmC (h : ak_S) (u N : Nat) (w : Int) : ak_S := (am_up h.1 (ak_T u) 6 ((N + 1 : Nat) : Int), am_up h.2.1 (ak_T u + 14) N w, h.2.2)
theorem am_s136 {u : Nat} (hu : u = 0 ∨ u = 1) {Q : Int → ak_S → Prop} {X : Nat → ak_S → Prop} {w : Int} {N : Nat} (hN : hc.1 (ak_T u) 6 = (N : Int)) (hN2 : N ≤ 100)
    (w1 : 0 ≤ ak_find (hc.2.1 (ak_T u + 14)) w N 0 → Q (ak_find (hc.2.1 (ak_T u + 14)) w N 0) hc) (w2 : ak_find (hc.2.1 (ak_T u + 14)) w N 0 < 0 → N < 100 → Q (N : Int) (ak_nmC hc u N w)) (w3 : ak_find (hc.2.1 (ak_T u + 14)) w N 0 < 0 → N = 100 → Q (-1) hc) :
    ak_MI e 0 (d + 1) ρ 136 [am_r (ak_T u), am_l w] hc Q X := by
  have hml : am_cats [am_r (ak_T u), am_l w] ≤ am_ml am_P 136 := Nat.le_of_ble_eq_true rfl
  have lp : ∀ (c x : Nat), x + c = N → ak_find (hc.2.1 (ak_T u + 14)) w c x = ak_find (hc.2.1 (ak_T u + 14)) w N 0 → ak_W0 e 0 d 136 ρ 2 [some (am_r (ak_T u)), some (am_l w), none, some (am_i (x : Int))] [] hc (ak_qi Q X) := by
    intro c
    induction c with
    | zero =>
      intro x hx he
      have hneg : ak_find (hc.2.1 (ak_T u + 14)) w N 0 < 0 := by rw [← he]; exact (by decide : (-1 : Int) < 0)
      have bN : N < 100 → 0 ≤ (N : Int) ∧ (N : Int) < 100 := by omega
      have e1 : N < 100 → am_w32 (am_w32 ((N : Int) + 1) - 1) = (N : Int) := by
        intro _
        rw [ak_wj (show N < 1000000 by omega), ak_w (((N + 1 : Nat) : Int) - 1) (by omega)]
        omega
      have g1 : ¬ (x : Int) < hc.1 (ak_T u) 6 := by rw [hN]; omega
      refine am_k136_2 hu ⟨fun _ => ⟨fun q => ?_, fun q => ?_⟩, fun q => absurd q g1⟩
      · rw [hN] at q
        have hlt : N < 100 := Int.ofNat_lt.mp q
        rw [hN, e1 hlt, ak_natn, ak_wj (Nat.lt_trans hlt (by decide))]
        exact ⟨bN hlt, w2 hneg hlt⟩
      · rw [hN] at q
        exact w3 hneg (Nat.le_antisymm hN2 (Int.ofNat_le.mp q))
    | succ c ih =>
      intro x hx he
      have bx : 0 ≤ (x : Int) ∧ (x : Int) < 100 := by omega
      have g1 : ¬ hc.1 (ak_T u) 6 ≤ (x : Int) := by rw [hN]; omega
      refine am_k136_2 hu ⟨fun q => absurd q g1, fun _ => ⟨bx, fun q => ?_, fun q => ?_⟩⟩
      · rw [ak_natn] at q
        rw [ak_wj (show x < 1000000 by omega)]
        refine ih (x + 1) (by omega) ?_
        rw [← he]
        show _ = (if hc.2.1 (ak_T u + 14) x = w then _ else ak_find _ w c (x + 1))
        rw [if_neg (fun q2 => q (ak_lsign0.mpr q2))]
      · rw [ak_natn] at q
        have e1 : ak_find (hc.2.1 (ak_T u + 14)) w (c + 1) x = (x : Int) := if_pos (ak_lsign0.mp q)
        rw [← he, e1] at w1
        exact w1 (by omega)
  exact ak_MI_of hml (am_k136_0 hu (lp N 0 (by omega) rfl))
theorem ak_lost_pk : ak_lost = ak_pk (fun k => am_sL.getD k 0) 0 4 := by decide
theorem ak_find_from {f g : Nat → Int} {w : Int} : ∀ (c k : Nat), (∀ j, k ≤ j → j < k + c → f j = g j) → ak_find f w c k = ak_find g w c k
  | 0, _, _ => rfl
  | c + 1, k, h => by
    unfold ak_find
    rw [h k (Nat.le_refl _) (by omega), ak_find_from c (k + 1) (fun j h1 h2 => h j (by omega) (by omega))]
/-- the name N more, on the other side -/
def ak_nmM (h : ak_S) (p N : Nat) (i z : Int) : ak_S := (am_up (am_up (am_up h.1 132 (100 * p + N) i) 133 (100 * p + N) z) 131 p ((N + 1 : Nat) : Int), h.2)
theorem am_s218 {u : Nat} {Q : Int → ak_S → Prop} {X : Nat → ak_S → Prop} {N i z : Nat} (mt : ak_mt hm p n b) (hf : hm.1 110 37 < 0) (nm : ak_nms b n u p hc hm N) (htok : hm.1 110 33 = 2) (hi : hm.1 110 34 = (i : Int)) (hz : hm.1 110 35 = (z : Int)) (w : ak_wd b n i z)
    (w1 : 0 ≤ ak_find (hc.2.1 (ak_T u + 14)) (ak_pk b i z) N 0 → Q (ak_find (hc.2.1 (ak_T u + 14)) (ak_pk b i z) N 0) hm) (w2 : ak_find (hc.2.1 (ak_T u + 14)) (ak_pk b i z) N 0 < 0 → N < 100 → Q (N : Int) (ak_nmM hm p N (i : Int) (z : Int)))
    (w3 : ak_find (hc.2.1 (ak_T u + 14)) (ak_pk b i z) N 0 < 0 → N = 100 → Q 0 (ak_wr hm)) : ak_MI e 1 (d + 4) ρ 218 [am_r 110] hm Q X := by
  obtain ⟨n1, n2, n3, n4, n5, n6⟩ := nm
  have hp := mt.1
  have hp2 := mt.2.1
  have hn6 : n ≤ 6000 := mt.2.2.2.1
  have b1 : 0 ≤ (p : Int) ∧ (p : Int) < 2 := by omega
  have hfirst : ak_find (hc.2.1 (ak_T u + 14)) (ak_pk b i z) N 0 = if ak_lost = ak_pk b i z then 0 else ak_find (hc.2.1 (ak_T u + 14)) (ak_pk b i z) (N - 1) 1 := by
    obtain ⟨N', rfl⟩ : ∃ N', N = N' + 1 := ⟨N - 1, by omega⟩
    show (if hc.2.1 (ak_T u + 14) 0 = ak_pk b i z then _ else _) = _
    rw [n5]
    rfl
  -- the names from 1 on
  have l90 : ak_lost ≠ ak_pk b i z → ∀ (c x : Nat), x + c = N → 1 ≤ x → ak_find (hc.2.1 (ak_T u + 14)) (ak_pk b i z) c x = ak_find (hc.2.1 (ak_T u + 14)) (ak_pk b i z) N 0 → ak_W0 e 1 (d + 3) 218 ρ 90 [some (am_r 110), none, some (am_i (x : Int))] [] hm (ak_qi Q X) := by
    intro hnl c
    induction c with
    | zero =>
      intro x hx hx1 he
      have hneg : ak_find (hc.2.1 (ak_T u + 14)) (ak_pk b i z) N 0 < 0 := by rw [← he]; exact (by decide : (-1 : Int) < 0)
      refine am_k218_90 ?_
      rw [hp, ak_natn, n4]
      refine ⟨b1, fun _ => ⟨b1, fun q => ?_, fun q => ?_⟩, fun q => absurd q (by omega)⟩
      · have hlt : N < 100 := by
          rcases Nat.lt_or_ge N 100 with g | g
          · exact g
          · exact absurd (congrArg (fun x : Nat => (x : Int)) (Nat.le_antisymm n2 g)) q
        have b2 : 0 ≤ ((100 * p + N : Nat) : Int) ∧ ((100 * p + N : Nat) : Int) < 200 := by omega
        rw [show am_w32 (am_w32 (100 * (p : Int)) + (N : Int)) = ((100 * p + N : Nat) : Int) from ak_wmul (c := 100) (by omega), ak_natn, hi, hz, ak_wj (show N < 1000000 by omega)]
        refine ⟨b1, b2, b1, b2, b1, b1, b1, ?_⟩
        have e1 : am_up (am_up (am_up hm.1 132 (100 * p + N) (i : Int)) 133 (100 * p + N) (z : Int)) 131 p ((N + 1 : Nat) : Int) 131 p = ((N + 1 : Nat) : Int) := by simp [am_up]
        rw [e1, show am_w32 (((N + 1 : Nat) : Int) - 1) = (N : Int) from ?_]
        · exact w2 hneg hlt
        · rw [ak_w (((N + 1 : Nat) : Int) - 1) (by omega)]; omega
      · have hN : N = 100 := by omega
        exact am_s207 (fun _ => w3 hneg hN) (fun q2 => absurd q2 (by omega))
    | succ c ih =>
      intro x hx hx1 he
      obtain ⟨i', z', w', g1, g2, g3⟩ := n6 x hx1 (by omega)
      have b2 : 0 ≤ ((100 * p + x : Nat) : Int) ∧ ((100 * p + x : Nat) : Int) < 200 := by omega
      refine am_k218_90 ?_
      rw [hp, ak_natn, n4, show am_w32 (am_w32 (100 * (p : Int)) + (x : Int)) = ((100 * p + x : Nat) : Int) from ak_wmul (c := 100) (by omega), ak_natn, hi, hz, ak_wj (show x < 1000000 by omega), g1, g2]
      refine ⟨b1, fun q => absurd q (by omega), fun _ => ⟨b2, b2, am_s213 mt w' w (fun q => ⟨fun q2 => absurd q2 (by decide), fun _ => ?_⟩) (fun q => ⟨fun _ => ?_, fun q2 => absurd rfl q2⟩)⟩⟩
      · have e1 : ak_find (hc.2.1 (ak_T u + 14)) (ak_pk b i z) (c + 1) x = (x : Int) := if_pos (g3.trans q)
        rw [← he, e1] at w1
        exact w1 (by omega)
      · refine ih (x + 1) (by omega) (by omega) ?_
        rw [← he]
        show _ = (if hc.2.1 (ak_T u + 14) x = ak_pk b i z then _ else ak_find _ _ c (x + 1))
        rw [if_neg (fun q2 => q (g3.symm.trans q2))]
  have no : ak_lost ≠ ak_pk b i z → ak_W0 e 1 (d + 3) 218 ρ 90 [some (am_r 110), none, some (am_i 1)] [] hm (ak_qi Q X) := by
    intro hnl
    rw [if_neg hnl] at hfirst
    exact l90 hnl (N - 1) 1 (by omega) (Nat.le_refl _) hfirst.symm
  have yes : ak_lost = ak_pk b i z → Q 0 hm := by
    intro hl
    rw [if_pos hl] at hfirst
    rw [hfirst] at w1
    exact w1 (Int.le_refl _)
  have lostL : ∀ k, k < 4 → ak_isL ((fun k => am_sL.getD k 0) (0 + k)) := by unfold ak_isL; decide
  have liff : ak_lost = ak_pk b i z ↔ z = 4 ∧ ∀ k, k < 4 → b (i + k) = am_sL.getD k 0 := by
    rw [ak_lost_pk]
    constructor
    · intro q
      obtain ⟨q1, q2⟩ := ak_pk_inj 4 z lostL w.2.2.2 q
      exact ⟨q1.symm, fun k hk => by have := q2 k hk; rw [Nat.zero_add] at this; exact this.symm⟩
    · rintro ⟨rfl, q⟩
      exact ak_pk_congr 4 (fun k hk => by rw [Nat.zero_add]; exact (q k hk).symm)
  have l43 : ∀ (c x : Nat) (s : Int), x + c = 4 → (s = 0 ∨ s = 1) → (s = 1 ↔ z = 4 ∧ ∀ k, k < x → b (i + k) = am_sL.getD k 0) → ak_W0 e 1 (d + 3) 218 ρ 43 [some (am_r 110), some (am_i s), some (am_i (x : Int))] [] hm (ak_qi Q X) := by
    intro c
    induction c with
    | zero =>
      intro x s hx hs hsx
      have hx4 : x = 4 := by omega
      subst hx4
      refine am_k218_43 ⟨fun _ => ⟨fun q => no (fun q2 => ?_), fun q => yes (liff.mpr (hsx.mp (by omega)))⟩, fun q => absurd q (by decide)⟩
      have := hsx.mpr (liff.mp q2)
      omega
    | succ c ih =>
      intro x s hx hs hsx
      have hx4 : x < 4 := by omega
      refine am_k218_43 ⟨fun q => absurd q (by omega), fun _ => ⟨fun q => ⟨fun _ => no (fun q2 => ?_), fun q2 => absurd q q2⟩, fun q => ?_⟩⟩
      · have h4 := liff.mp q2
        have := hsx.mpr ⟨h4.1, fun k hk => h4.2 k (by omega)⟩
        omega
      · have s1 : s = 1 := by omega
        obtain ⟨z4, hb⟩ := hsx.mp s1
        have hix : i + x < n := by have := w.2.2.1; omega
        have bx : 0 ≤ (x : Int) ∧ (x : Int) < 4 := by omega
        have hL := w.2.2.2 x (by omega)
        unfold ak_isL at hL
        have hmod : b (i + x) % 256 = b (i + x) := by omega
        rw [hi, ak_wadd (show i + x < 1000000 by omega), ak_wj (show x < 1000000 by omega), ak_natn, congrFun (am_I1 (X := e.2)) x]
        refine am_s201 mt (fun _ => ?_) (fun q2 => absurd q2 (by omega))
        rw [hmod]
        refine ⟨bx, fun q2 => ih (x + 1) 0 (by omega) (Or.inl rfl) ⟨fun q3 => absurd q3 (by decide), fun q3 => absurd (q3.2 x (by omega)) q2⟩, fun q2 => ih (x + 1) 1 (by omega) (Or.inr rfl) ⟨fun _ => ⟨z4, fun k hk => ?_⟩, fun _ => rfl⟩⟩
        by_cases hkx : k = x
        · subst hkx; exact q2
        · exact hb k (by omega)
  refine ak_MI_of (Nat.le_of_ble_eq_true rfl) (am_k218_0 (am_s206 (fun _ => ⟨fun _ => ⟨fun _ => ⟨fun q => ?_, fun q => ?_⟩, fun q => absurd htok q⟩, fun q => absurd rfl q⟩) (fun q => absurd q (by omega))))
  · rw [hz] at q
    exact l43 4 0 0 rfl (Or.inl rfl) ⟨fun q2 => absurd q2 (by decide), fun q2 => absurd (congrArg (fun x : Nat => (x : Int)) q2.1) q⟩
  · rw [hz] at q
    exact l43 4 0 1 rfl (Or.inr rfl) ⟨fun _ => ⟨by omega, fun k hk => absurd hk (Nat.not_lt_zero _)⟩, fun _ => rfl⟩
end NAMES
