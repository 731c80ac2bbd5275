/-! the tape: feed, end -/
theorem ak_w (z : Int) (h : -2147483648 ≤ z ∧ z < 2147483648) : am_w32 z = z := am_w32_id h.1 h.2
theorem ak_wj {j : Nat} (h : j < 1000000) : am_w32 ((j : Int) + 1) = ((j + 1 : Nat) : Int) := by
  rw [ak_w ((j : Int) + 1) (by omega)]
  omega
theorem ak_tm4 (j : Nat) : Int.tmod (j : Int) 4 = ((j % 4 : Nat) : Int) := by
  rw [Int.tmod_eq_emod_of_nonneg (show (0 : Int) ≤ (j : Int) by omega)]
  omega
theorem ak_sh4 (j : Nat) : am_w32 (24 - am_w32 (8 * Int.tmod (j : Int) 4)) = 24 - 8 * ((j % 4 : Nat) : Int) := by
  rw [ak_tm4, ak_w (8 * ((j % 4 : Nat) : Int)) (by omega), ak_w (24 - 8 * ((j % 4 : Nat) : Int)) (by omega)]
theorem ak_sh4n (j : Nat) : ((Int32.ofInt (24 - 8 * ((j % 4 : Nat) : Int))).toUInt32 &&& Int32.toUInt32 31).toNat % 32 = 24 - 8 * (j % 4) := by
  have : j % 4 < 4 := Nat.mod_lt _ (by decide)
  match j % 4, this with
  | 0, _ => decide +kernel
  | 1, _ => decide +kernel
  | 2, _ => decide +kernel
  | 3, _ => decide +kernel
def ak_tape (hc hm : ak_S) : Prop := ∃ n : Nat, n ≤ 6000 ∧ hc.1 3 1 = (n : Int) ∧ hm.1 110 2 = (n : Int) ∧ ∀ k, k < n → (-128 ≤ hc.1 4 k ∧ hc.1 4 k < 128) ∧ hm.1 111 k = hc.1 4 k % 256
def ak_frc (h h' : ak_S) : Prop := (∀ p k, p ≠ 4 → ¬ (p = 3 ∧ k = 1) → h'.1 p k = h.1 p k) ∧ h'.2 = h.2
def ak_frm (h h' : ak_S) : Prop := (∀ p k, p ≠ 111 → ¬ (p = 110 ∧ (k = 0 ∨ k = 2)) → h'.1 p k = h.1 p k) ∧ h'.2 = h.2
def ak_no (h : ak_S) (x : Int) : ak_S := (am_up h.1 110 0 x, h.2)
def ak_ar (x1 x2 x3 x4 x5 : Int) (i : Nat) : Int := if i < 4 then x1 else if i < 8 then x2 else if i < 12 then x3 else if i < 16 then x4 else x5
section FEED
variable {e : ak_X3} {d : Nat} {hc hm : ak_S} {x1 x2 x3 x4 x5 : Int}
theorem am_s199 {ρ : List Nat} {h : ak_S} {Q : Int → ak_S → Prop} {X : Nat → ak_S → Prop} (r1 : -2147483648 ≤ x1 ∧ x1 < 2147483648) (r2 : -2147483648 ≤ x2 ∧ x2 < 2147483648) (r3 : -2147483648 ≤ x3 ∧ x3 < 2147483648) (r4 : -2147483648 ≤ x4 ∧ x4 < 2147483648) (r5 : -2147483648 ≤ x5 ∧ x5 < 2147483648)
    {n : Nat} {B : Nat → Int} (hn : n + 20 ≤ 6000) (hh : h.1 110 2 = (n : Int)) (hB : ∀ k, k < 20 → B k = ak_by (ak_ar x1 x2 x3 x4 x5 k) (24 - 8 * (k % 4)) % 256)
    (w : ∀ h2, ak_pt 111 110 2 (ak_no h 0) h2 n B 20 → Q (((n + 20 : Nat) : Int)) h2) : ak_MI e 1 (d + 1) ρ 199 [am_r 110, am_i x1, am_i x2, am_i x3, am_i x4, am_i x5] h Q X := by
  have l80 : ∀ (j : Nat) (y : Int) (h2 : ak_S), j < 20 → -2147483648 ≤ y → y < 2147483648 → y = ak_ar x1 x2 x3 x4 x5 j → ak_pt 111 110 2 (ak_no h 0) h2 n B j →
      (∀ h3, ak_pt 111 110 2 (ak_no h 0) h3 n B (j + 1) → ak_W0 e 1 d 199 ρ 27 [some (am_r 110), some (am_i x1), some (am_i x2), some (am_i x3), some (am_i x4), some (am_i x5), some (am_i ((j + 1 : Nat) : Int)), none] [] h3 (ak_qi Q X)) →
      ak_W0 e 1 d 199 ρ 80 [some (am_r 110), some (am_i x1), some (am_i x2), some (am_i x3), some (am_i x4), some (am_i x5), some (am_i (j : Int)), none] [am_i y] h2 (ak_qi Q X) := by
    intro j y h2 hj y1 y2 hy hp hw
    have hl := hp.1
    refine am_k199_80 ⟨by decide, ⟨by rw [hl]; omega, by rw [hl]; omega⟩, ?_⟩
    rw [ak_wj (show j < 1000000 by omega)]
    refine hw _ (ak_pt_step (by decide) hp ?_ (by rw [hl]; exact ak_w _ (by omega)) (by rw [hl]; omega))
    rw [ak_sh4, ak_shr y1 y2 (ak_sh4n j), hB j hj, ← hy]
    refine (ak_by_mod ?_).symm
    have : j % 4 < 4 := Nat.mod_lt _ (by decide)
    omega
  have l27 : ∀ (c j : Nat) (h2 : ak_S), j + c = 20 → ak_pt 111 110 2 (ak_no h 0) h2 n B j → ak_W0 e 1 d 199 ρ 27 [some (am_r 110), some (am_i x1), some (am_i x2), some (am_i x3), some (am_i x4), some (am_i x5), some (am_i (j : Int)), none] [] h2 (ak_qi Q X) := by
    intro c
    induction c with
    | zero =>
      intro j h2 hj hp
      have hj20 : j = 20 := by omega
      subst hj20
      refine am_k199_27 ⟨fun _ => ?_, fun h0 => absurd h0 (by decide)⟩
      rw [hp.1]
      exact w _ hp
    | succ c ih =>
      intro j h2 hj hp
      have nx : ∀ h3, ak_pt 111 110 2 (ak_no h 0) h3 n B (j + 1) → ak_W0 e 1 d 199 ρ 27 [some (am_r 110), some (am_i x1), some (am_i x2), some (am_i x3), some (am_i x4), some (am_i x5), some (am_i ((j + 1 : Nat) : Int)), none] [] h3 (ak_qi Q X) := fun h3 p3 => ih (j + 1) h3 (by omega) p3
      refine am_k199_27 ⟨fun h0 => absurd h0 (by omega), fun _ => ⟨fun g1 => ⟨fun g2 => ⟨fun g3 => ⟨fun g4 => ?_, fun g4 => ?_⟩, fun g3 => ?_⟩, fun g2 => ?_⟩, fun g1 => ?_⟩⟩
      · exact l80 j x5 h2 (by omega) r5.1 r5.2 (by unfold ak_ar; rw [if_neg (by omega), if_neg (by omega), if_neg (by omega), if_neg (by omega)]) hp nx
      · exact l80 j x4 h2 (by omega) r4.1 r4.2 (by unfold ak_ar; rw [if_neg (by omega), if_neg (by omega), if_neg (by omega), if_pos (by omega)]) hp nx
      · exact l80 j x3 h2 (by omega) r3.1 r3.2 (by unfold ak_ar; rw [if_neg (by omega), if_neg (by omega), if_pos (by omega)]) hp nx
      · exact l80 j x2 h2 (by omega) r2.1 r2.2 (by unfold ak_ar; rw [if_neg (by omega), if_pos (by omega)]) hp nx
      · exact l80 j x1 h2 (by omega) r1.1 r1.2 (by unfold ak_ar; rw [if_pos (by omega)]) hp nx
  refine ak_MI_of (Nat.le_of_ble_eq_true rfl) (am_k199_0 ⟨fun _ => l27 20 0 (ak_no h 0) rfl (ak_pt_0 ?_), fun h0 => absurd h0 ?_⟩)
  · show am_up h.1 110 0 0 110 2 = _
    unfold am_up
    rw [if_pos rfl, if_neg (by decide), hh]
  · rw [hh, ak_w ((n : Int) + 20) (by omega)]; omega
theorem ak_pt_split {q a b : Nat} {h h' : ak_S} {n : Nat} {B : Nat → Int} {m : Nat} (w : ak_pt q a b h h' n B m) {k : Nat} (hk : k < n + m) (hq : q ≠ a) : h'.1 q k = if k < n then h.1 q k else B (k - n) := by
  by_cases h1 : k < n
  · rw [if_pos h1]
    exact w.2.2.1 q k (fun z => by omega) (fun z => hq z.1)
  · rw [if_neg h1]
    have := w.2.1 (k - n) (by omega)
    rwa [show n + (k - n) = k by omega] at this
theorem am_feed {ρ1 ρ2 u : Nat} (hu : u = 0 ∨ u = 1) {R : ak_S → ak_S → Prop} (r1 : -2147483648 ≤ x1 ∧ x1 < 2147483648) (r2 : -2147483648 ≤ x2 ∧ x2 < 2147483648) (r3 : -2147483648 ≤ x3 ∧ x3 < 2147483648) (r4 : -2147483648 ≤ x4 ∧ x4 < 2147483648) (r5 : -2147483648 ≤ x5 ∧ x5 < 2147483648)
    (T : ak_tape hc hm) (R1 : ∀ hc' hm', ak_tape hc' hm' → ak_frc hc hc' → ak_frm hm hm' → hm'.1 110 0 = 0 → R hc' hm') (R2 : R (ak_th hc) (ak_no hm 1)) : ak_cI e (d + 2) [ak_T u, ρ1, ρ2, ak_T u, ak_T u + 1] 166 199 [am_i x1, am_i x2, am_i x3, am_i x4, am_i x5] hc hm [(3, 1)] R := by
  obtain ⟨n, t1, t2, t3, t4⟩ := T
  let B : Nat → Int := fun k => ak_by (ak_ar x1 x2 x3 x4 x5 k) (24 - 8 * (k % 4))
  have eC : am_w32 (hc.1 3 1 + 20) = (n : Int) + 20 := by rw [t2]; exact ak_w _ (by omega)
  have eM : am_w32 (hm.1 110 2 + 20) = (n : Int) + 20 := by rw [t3]; exact ak_w _ (by omega)
  have hlt : ¬ (n : Int) + 20 ≤ 6000 → 6000 < (n : Int) + 20 := fun z => Int.not_le.mp z
  refine ak_MI_of (Nat.le_of_ble_eq_true rfl) (am_k166_0 hu ⟨fun h0 => ?_, fun h0 => ?_⟩)
  · rw [eC] at h0
    clear eC eM
    refine am_s121 r1.1 r1.2 (n := n) (m := 0) (B := B) (by omega) (fun i hi => ?_) (ak_pt_0 t2) (fun h1 p1 => ?_)
    · show ak_by (ak_ar x1 x2 x3 x4 x5 (0 + i)) (24 - 8 * ((0 + i) % 4)) = _
      unfold ak_ar; rw [if_pos (by omega), show (0 + i) % 4 = i by omega]
    refine am_s121 r2.1 r2.2 (n := n) (m := 0 + 4) (B := B) (by omega) (fun i hi => ?_) p1 (fun h1 p1 => ?_)
    · show ak_by (ak_ar x1 x2 x3 x4 x5 (0 + 4 + i)) (24 - 8 * ((0 + 4 + i) % 4)) = _
      unfold ak_ar; rw [if_neg (by omega), if_pos (by omega), show (0 + 4 + i) % 4 = i by omega]
    refine am_s121 r3.1 r3.2 (n := n) (m := 0 + 4 + 4) (B := B) (by omega) (fun i hi => ?_) p1 (fun h1 p1 => ?_)
    · show ak_by (ak_ar x1 x2 x3 x4 x5 (0 + 4 + 4 + i)) (24 - 8 * ((0 + 4 + 4 + i) % 4)) = _
      unfold ak_ar; rw [if_neg (by omega), if_neg (by omega), if_pos (by omega), show (0 + 4 + 4 + i) % 4 = i by omega]
    refine am_s121 r4.1 r4.2 (n := n) (m := 0 + 4 + 4 + 4) (B := B) (by omega) (fun i hi => ?_) p1 (fun h1 p1 => ?_)
    · show ak_by (ak_ar x1 x2 x3 x4 x5 (0 + 4 + 4 + 4 + i)) (24 - 8 * ((0 + 4 + 4 + 4 + i) % 4)) = _
      unfold ak_ar; rw [if_neg (by omega), if_neg (by omega), if_neg (by omega), if_pos (by omega), show (0 + 4 + 4 + 4 + i) % 4 = i by omega]
    refine am_s121 r5.1 r5.2 (n := n) (m := 0 + 4 + 4 + 4 + 4) (B := B) (by omega) (fun i hi => ?_) p1 (fun h1 p1 => ?_)
    · show ak_by (ak_ar x1 x2 x3 x4 x5 (0 + 4 + 4 + 4 + 4 + i)) (24 - 8 * ((0 + 4 + 4 + 4 + 4 + i) % 4)) = _
      unfold ak_ar; rw [if_neg (by omega), if_neg (by omega), if_neg (by omega), if_neg (by omega), show (0 + 4 + 4 + 4 + 4 + i) % 4 = i by omega]
    refine am_s199 r1 r2 r3 r4 r5 (n := n) (B := fun k => B k % 256) (by omega) t3 (fun k _ => rfl) (fun h2 p2 => ?_)
    refine ⟨R1 _ _ ⟨n + 20, by omega, ?_, p2.1, fun k hk => ?_⟩ ⟨fun p k a1 a2 => p1.2.2.1 p k (fun z => a1 z.1) a2, p1.2.2.2⟩ ⟨fun p k a1 a2 => ?_, p2.2.2.2⟩ ?_, ?_, ?_⟩
    · rw [p1.1]
    · rw [ak_pt_split p1 hk (by decide), ak_pt_split p2 hk (by decide)]
      by_cases hkn : k < n
      · rw [if_pos hkn, if_pos hkn]
        have e1 : (ak_no hm 0).1 111 k = hm.1 111 k := by
          show am_up hm.1 110 0 0 111 k = _
          unfold am_up; rw [if_neg (by decide)]
        rw [e1]; exact t4 k hkn
      · rw [if_neg hkn, if_neg hkn]
        refine ⟨?_, rfl⟩
        show -128 ≤ ak_by _ _ ∧ ak_by _ _ < 128
        unfold ak_by am_w8; omega
    · rw [p2.2.2.1 p k (fun z => a1 z.1) (fun z => a2 ⟨z.1, Or.inr z.2⟩)]
      show am_up hm.1 110 0 0 p k = _
      unfold am_up
      by_cases hp : p = 110
      · rw [if_pos hp, if_neg (fun z => a2 ⟨hp, Or.inl z⟩)]
      · rw [if_neg hp]
    · rw [p2.2.2.1 110 0 (by omega) (by omega)]; rfl
    · rw [p2.2.2.1 110 0 (by omega) (by omega)]; rfl
    · rw [p1.1]
  · rw [eC] at h0
    refine ⟨1, by decide, ak_MI_of (Nat.le_of_ble_eq_true rfl) (am_k199_0 ⟨fun h1 => ?_, fun _ => am_s198 ⟨R2, rfl⟩⟩)⟩
    rw [eM] at h1
    exact absurd h1 (Int.not_le.mpr h0)
theorem am_end {ρ1 ρ2 u : Nat} (hu : u = 0 ∨ u = 1) {R : ak_S → ak_S → Prop} (T : ak_tape hc hm)
    (R1 : ∀ n : Nat, ak_tape (am_up hc.1 3 1 (n : Int), hc.2) (am_up (am_up hm.1 110 0 0) 110 2 (n : Int), hm.2) → R (am_up hc.1 3 1 (n : Int), hc.2) (am_up (am_up hm.1 110 0 0) 110 2 (n : Int), hm.2)) (R2 : R (ak_th hc) (ak_no hm 1)) : ak_cV e (d + 2) [ak_T u, ρ1, ρ2, ak_T u, ak_T u + 1] 167 200 [am_i x1] hc hm [(1, 1)] R := by
  obtain ⟨n, t1, t2, t3, t4⟩ := T
  refine ak_MV_of (Nat.le_of_ble_eq_true rfl) (am_k167_0 hu ⟨fun h0 => ?_, fun h0 => ⟨fun h1 => ?_, fun h1 => ?_⟩⟩)
  · exact ⟨1, by decide, ak_MV_of (Nat.le_of_ble_eq_true rfl) (am_k200_0 ⟨fun _ => ⟨fun _ => ⟨R2, rfl⟩, fun z => absurd z (by decide)⟩, fun z => absurd h0 (by omega)⟩)⟩
  · refine ak_MV_of (Nat.le_of_ble_eq_true rfl) (am_k200_0 ⟨fun z => absurd h0 (by omega), fun _ => ⟨fun _ => ⟨fun z => absurd rfl z, fun _ => ?_⟩, fun z => absurd h1 (by rw [t2]; rw [t3] at z; omega)⟩⟩)
    have hx : x1 = ((x1.toNat : Nat) : Int) := by omega
    rw [t2] at h1
    refine ⟨?_, rfl⟩
    rw [hx]
    refine R1 _ ⟨x1.toNat, by omega, rfl, rfl, fun k hk => ?_⟩
    have e1 : am_up hc.1 3 1 ((x1.toNat : Nat) : Int) 4 k = hc.1 4 k := by unfold am_up; rw [if_neg (by decide)]
    have e2 : am_up (am_up hm.1 110 0 0) 110 2 ((x1.toNat : Nat) : Int) 111 k = hm.1 111 k := by unfold am_up; rw [if_neg (by decide), if_neg (by decide)]
    show (-128 ≤ am_up hc.1 3 1 ((x1.toNat : Nat) : Int) 4 k ∧ am_up hc.1 3 1 ((x1.toNat : Nat) : Int) 4 k < 128) ∧ am_up (am_up hm.1 110 0 0) 110 2 ((x1.toNat : Nat) : Int) 111 k = am_up hc.1 3 1 ((x1.toNat : Nat) : Int) 4 k % 256
    rw [e1, e2]
    exact t4 k (by omega)
  · rw [t2] at h1
    exact ⟨1, by decide, ak_MV_of (Nat.le_of_ble_eq_true rfl) (am_k200_0 ⟨fun z => absurd h0 (by omega), fun _ => ⟨fun z => absurd z (by rw [t3]; omega), fun _ => ⟨fun _ => ⟨R2, rfl⟩, fun z => absurd z (by decide)⟩⟩⟩)⟩
end FEED
