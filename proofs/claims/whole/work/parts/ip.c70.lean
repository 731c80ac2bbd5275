/-! the run: the call begins, the one's side -/
section C70
variable {e : ak_X3} {d ρ1 ρ2 u n r mth a : Nat} {x1 x2 : Int} {hc hX : ak_S} {Q : Int → ak_S → Prop} {X : Nat → ak_S → Prop}
/-- what is there when the first method begins -/
def ak_prC (x1 x2 : Int) (h hX : ak_S) : Prop :=
  (hX.2.1 64 0 = 0 ∧ hX.2.1 64 1 = 0 ∧ hX.2.1 64 2 = 0 ∧ hX.2.1 64 3 = -1 ∧ hX.2.1 64 4 = 0 ∧ hX.2.1 64 5 = 0 ∧ hX.2.1 64 6 = 0) ∧ (hX.1 77 4 = 0 ∧ hX.1 77 10 = 0 ∧ hX.1 32 10 = 3 ∧ hX.1 32 11 = -1 ∧ hX.1 32 13 = 2 ∧ hX.1 32 14 = 0 ∧ hX.1 32 15 = -1 ∧ hX.1 32 16 = 0) ∧
  ((hX.1 108 0 = 2 ∧ hX.2.1 109 0 = 0) ∧ (hX.1 108 1 = 1 ∧ hX.2.1 109 1 = x1) ∧ hX.1 108 2 = 1 ∧ hX.2.1 109 2 = x2) ∧
  (∀ q k, q ≠ 32 → ¬ (q = 77 ∧ (k = 4 ∨ k = 10)) → q ≠ 108 → hX.1 q k = h.1 q k) ∧ (∀ q k, q ≠ 64 → q ≠ 109 → hX.2.1 q k = h.2.1 q k) ∧ hX.2.2 = h.2.2
theorem am_c70 (hu : u = 0 ∨ u = 1) (h7 : hc.1 69 7 = 0) (h8 : hc.1 69 8 = 0) (hmth : mth < 40) (hst : hc.1 (ak_T u + 13) mth = (a : Int)) (fr : hc.1 49 11 = ((n + 1 : Nat) : Int) ∧ n < 560 ∧ hc.1 60 n = (r : Int) ∧ r < 560)
    (q : ∀ hX hcF, ak_prC x1 x2 hc hX → ak_mtC n r 0 0 2 mth a 0 2 0 0 (-1) 0 0 hX hcF → ak_W0 e 0 (d + 40) 70 (ak_rc u ρ1 ρ2) 71 [some (am_r 32), none, none, none, none, none, some (am_i ((0 : Nat) : Int))] [] hcF (ak_qi Q X)) :
    ak_MI e 0 (d + 41) (ak_rc u ρ1 ρ2) 70 [am_r 32, am_i (mth : Int), am_l x1, am_l x2] hc Q X := by
  have hT := ak_T_bd hu
  refine ak_MI_of (Nat.le_of_ble_eq_true rfl) (am_k70_0 hu (ak_MV_of (Nat.le_of_ble_eq_true rfl) (am_k60_0 (am_s366b (d := d + 38) (fun h1 e1 z1 o1 c1 => ⟨by decide, ak_MV_of (Nat.le_of_ble_eq_true rfl) (am_k52_0 ?_)⟩)))))
  show ak_MV e 0 (d + 40) (ak_rc u ρ1 ρ2) 73 [am_r 32, am_i 2, am_l 0] ((am_up (am_up (am_up (am_up h1.1 77 4 0) 77 10 0) 32 10 0) 32 11 (-1), am_up h1.2.1 64 3 (-1), h1.2.2) : ak_S) _ _
  have A : ∀ q k, q ≠ 32 → ¬ (q = 77 ∧ (k = 4 ∨ k = 10)) → ((am_up (am_up (am_up (am_up h1.1 77 4 0) 77 10 0) 32 10 0) 32 11 (-1), am_up h1.2.1 64 3 (-1), h1.2.2) : ak_S).1 q k = hc.1 q k := fun q k a b => (ak_up_out1 (by omega)).trans ((ak_up_out (by omega)).trans ((ak_up_out (by omega)).trans ((ak_up_out (by omega)).trans (by rw [e1]))))
  have AJ : ∀ q k, q ≠ 64 → ((am_up (am_up (am_up (am_up h1.1 77 4 0) 77 10 0) 32 10 0) 32 11 (-1), am_up h1.2.1 64 3 (-1), h1.2.2) : ak_S).2.1 q k = hc.2.1 q k := fun q k a => (show am_up h1.2.1 64 3 (-1) q k = h1.2.1 q k from ak_up_out (by omega)).trans (o1 q k a)
  have A1 : ((am_up (am_up (am_up (am_up h1.1 77 4 0) 77 10 0) 32 10 0) 32 11 (-1), am_up h1.2.1 64 3 (-1), h1.2.2) : ak_S).1 77 4 = 0 ∧ ((am_up (am_up (am_up (am_up h1.1 77 4 0) 77 10 0) 32 10 0) 32 11 (-1), am_up h1.2.1 64 3 (-1), h1.2.2) : ak_S).1 77 10 = 0 ∧ ((am_up (am_up (am_up (am_up h1.1 77 4 0) 77 10 0) 32 10 0) 32 11 (-1), am_up h1.2.1 64 3 (-1), h1.2.2) : ak_S).1 32 10 = ((0 : Nat) : Int) ∧ ((am_up (am_up (am_up (am_up h1.1 77 4 0) 77 10 0) 32 10 0) 32 11 (-1), am_up h1.2.1 64 3 (-1), h1.2.2) : ak_S).1 32 11 = -1 := by simp [am_up]
  have A6 : ∀ k, k < 7 → k ≠ 3 → ((am_up (am_up (am_up (am_up h1.1 77 4 0) 77 10 0) 32 10 0) 32 11 (-1), am_up h1.2.1 64 3 (-1), h1.2.2) : ak_S).2.1 64 k = 0 := fun k hk a => (show am_up h1.2.1 64 3 (-1) 64 k = h1.2.1 64 k from ak_up_out (by omega)).trans (z1 k hk)
  have A3 : ((am_up (am_up (am_up (am_up h1.1 77 4 0) 77 10 0) 32 10 0) 32 11 (-1), am_up h1.2.1 64 3 (-1), h1.2.2) : ak_S).2.1 64 3 = -1 := show am_up h1.2.1 64 3 (-1) 64 3 = -1 from ak_up_at
  have A2 : ((am_up (am_up (am_up (am_up h1.1 77 4 0) 77 10 0) 32 10 0) 32 11 (-1), am_up h1.2.1 64 3 (-1), h1.2.2) : ak_S).2.2 = hc.2.2 := c1
  generalize ((am_up (am_up (am_up (am_up h1.1 77 4 0) 77 10 0) 32 10 0) 32 11 (-1), am_up h1.2.1 64 3 (-1), h1.2.2) : ak_S) = hA at A AJ A1 A6 A3 A2 ⊢
  obtain ⟨a1, a2, a3, a4⟩ := A1
  refine am_s73 (d := d + 39) (n := 0) hu a3 (by decide) (am_s73 (d := d + 39) (n := 1) hu ak_psC_v.2.2 (by decide) (am_s73 (d := d + 39) (n := 2) hu ak_psC_v.2.2 (by decide) ⟨Or.inl rfl, ?_⟩))
  have B : ∀ q k, q ≠ 32 → q ≠ 108 → (ak_psC (ak_psC (ak_psC hA 0 2 0) 1 1 x1) 2 1 x2).1 q k = hA.1 q k := fun q k a b => (ak_psC_o (by omega) (by omega)).trans ((ak_psC_o (by omega) (by omega)).trans (ak_psC_o (by omega) (by omega)))
  have B11 : (ak_psC (ak_psC (ak_psC hA 0 2 0) 1 1 x1) 2 1 x2).1 32 11 = -1 := (ak_psC_o (by omega) (by omega)).trans ((ak_psC_o (by omega) (by omega)).trans ((ak_psC_o (by omega) (by omega)).trans a4))
  have BJ : ∀ q k, q ≠ 109 → (ak_psC (ak_psC (ak_psC hA 0 2 0) 1 1 x1) 2 1 x2).2.1 q k = hA.2.1 q k := fun q k a => (ak_psC_J (by omega)).trans ((ak_psC_J (by omega)).trans (ak_psC_J (by omega)))
  have B10 : (ak_psC (ak_psC (ak_psC hA 0 2 0) 1 1 x1) 2 1 x2).1 32 10 = 3 := ak_psC_v.2.2
  have V0 : (ak_psC (ak_psC (ak_psC hA 0 2 0) 1 1 x1) 2 1 x2).1 108 0 = 2 ∧ (ak_psC (ak_psC (ak_psC hA 0 2 0) 1 1 x1) 2 1 x2).2.1 109 0 = 0 := by unfold ak_psC; simp [am_up]
  have V1 : (ak_psC (ak_psC (ak_psC hA 0 2 0) 1 1 x1) 2 1 x2).1 108 1 = 1 ∧ (ak_psC (ak_psC (ak_psC hA 0 2 0) 1 1 x1) 2 1 x2).2.1 109 1 = x1 := by unfold ak_psC; simp [am_up]
  have V2 : (ak_psC (ak_psC (ak_psC hA 0 2 0) 1 1 x1) 2 1 x2).1 108 2 = 1 ∧ (ak_psC (ak_psC (ak_psC hA 0 2 0) 1 1 x1) 2 1 x2).2.1 109 2 = x2 := by unfold ak_psC; simp [am_up]
  have B2 : (ak_psC (ak_psC (ak_psC hA 0 2 0) 1 1 x1) 2 1 x2).2.2 = hA.2.2 := rfl
  generalize ak_psC (ak_psC (ak_psC hA 0 2 0) 1 1 x1) 2 1 x2 = hB at B B11 BJ B10 V0 V1 V2 B2 ⊢
  have C : ∀ q k, ¬ (q = 32 ∧ 13 ≤ k ∧ k ≤ 16) → ((am_up (am_up (am_up (am_up hB.1 32 13 2) 32 14 0) 32 15 (-1)) 32 16 0, hB.2) : ak_S).1 q k = hB.1 q k := fun q k a => (ak_up_out1 (by omega)).trans ((ak_up_out (by omega)).trans ((ak_up_out (by omega)).trans (ak_up_out (by omega))))
  have C1 : ((am_up (am_up (am_up (am_up hB.1 32 13 2) 32 14 0) 32 15 (-1)) 32 16 0, hB.2) : ak_S).1 32 13 = 2 ∧ ((am_up (am_up (am_up (am_up hB.1 32 13 2) 32 14 0) 32 15 (-1)) 32 16 0, hB.2) : ak_S).1 32 14 = 0 ∧ ((am_up (am_up (am_up (am_up hB.1 32 13 2) 32 14 0) 32 15 (-1)) 32 16 0, hB.2) : ak_S).1 32 15 = -1 ∧ ((am_up (am_up (am_up (am_up hB.1 32 13 2) 32 14 0) 32 15 (-1)) 32 16 0, hB.2) : ak_S).1 32 16 = 0 := by simp [am_up]
  have C2 : ((am_up (am_up (am_up (am_up hB.1 32 13 2) 32 14 0) 32 15 (-1)) 32 16 0, hB.2) : ak_S).2 = hB.2 := rfl
  generalize ((am_up (am_up (am_up (am_up hB.1 32 13 2) 32 14 0) 32 15 (-1)) 32 16 0, hB.2) : ak_S) = hX at C C1 C2 ⊢
  obtain ⟨b1, b2, b3, b4⟩ := C1
  have CC : ∀ q k, q ≠ 32 → ¬ (q = 77 ∧ (k = 4 ∨ k = 10)) → q ≠ 108 → hX.1 q k = hc.1 q k := fun q k s1 s2 s3 => (C q k (by omega)).trans ((B q k s1 s3).trans (A q k s1 s2))
  have J : ∀ q k, q ≠ 109 → hX.2.1 q k = hA.2.1 q k := fun q k s1 => by rw [C2]; exact BJ q k s1
  have c4 : hX.1 77 4 = 0 := (C _ _ (by omega)).trans ((B _ _ (by omega) (by omega)).trans a1)
  have c10 : hX.1 32 10 = 3 := (C _ _ (by omega)).trans B10
  have v0 : hX.1 108 0 = 2 ∧ hX.2.1 109 0 = 0 := ⟨(C _ _ (by omega)).trans V0.1, by rw [C2]; exact V0.2⟩
  have j6 : hX.2.1 64 6 = 0 := (J _ _ (by omega)).trans (A6 6 (by omega) (by omega))
  have P : ak_prC x1 x2 hc hX := ⟨⟨(J _ _ (by omega)).trans (A6 0 (by omega) (by omega)), (J _ _ (by omega)).trans (A6 1 (by omega) (by omega)), (J _ _ (by omega)).trans (A6 2 (by omega) (by omega)), (J _ _ (by omega)).trans A3, (J _ _ (by omega)).trans (A6 4 (by omega) (by omega)), (J _ _ (by omega)).trans (A6 5 (by omega) (by omega)), j6⟩,
    ⟨c4, (C _ _ (by omega)).trans ((B _ _ (by omega) (by omega)).trans a2), c10, (C _ _ (by omega)).trans B11, b1, b2, b3, b4⟩, ⟨v0, ⟨(C _ _ (by omega)).trans V1.1, by rw [C2]; exact V1.2⟩, (C _ _ (by omega)).trans V2.1, by rw [C2]; exact V2.2⟩, CC, fun q k s1 s2 => (J q k s2).trans (AJ q k s1), by rw [C2, B2]; exact A2⟩
  refine am_c93 (d := d + 34) (n := n) (r := r) (many := 0) (A := 0) (na := 2) (H := 0) (nb := 0) (pl := 0) (ho := -1) (hd := 0) (s := 2) (w := 0) (a := a) hu ((CC _ _ (by omega) (by omega) (by omega)).trans h7) (by decide) b1 (by decide) c10 (by decide) ((CC _ _ (by omega) (by omega) (by omega)).trans h8) (by decide) b2 b3 b4 (Or.inl rfl) v0.1 v0.2 j6 (by decide) hmth ((CC _ _ (by omega) (by omega) (by omega)).trans hst)
    (fun _ => ⟨(CC _ _ (by omega) (by omega) (by omega)).trans fr.1, fr.2.1, (CC _ _ (by omega) (by omega) (by omega)).trans fr.2.2.1, fr.2.2.2⟩) (fun _ h' mc => q hX h' P (by rw [c4] at mc; exact mc)) (fun z => absurd z (by decide))
end C70
