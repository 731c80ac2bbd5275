/-! a new object, on both sides -/
section NEWO
variable {e : ak_X3} {d S O B Mt NS us : Nat} {ρ : List Nat} {T : Nat → List (Int × Int)} {sh : Nat → Nat} {h hc hm : ak_S} {E : Nat → List ak_E} {Et : List ak_E} {G : List (Int × Int × Int × Int)}
def ak_nwC (h : ak_S) (O : Nat) : ak_S := (am_up (am_up h.1 34 O 0) 33 0 ((O + 1 : Nat) : Int), h.2)
def ak_nwM (h : ak_S) (O : Nat) : ak_S := (am_up (am_up (am_up h.1 141 O 0) 142 O 0) 110 46 ((O + 1 : Nat) : Int), h.2)
theorem am_s149 {Q : Int → ak_S → Prop} {X : Nat → ak_S → Prop} (hO : h.1 33 0 = (O : Int)) (q1 : O < 200 → Q (O : Int) (ak_nwC h O)) (q2 : 200 ≤ O → Q (-1) h) : ak_MI e 0 (d + 1) ρ 149 [am_r 33] h Q X := by
  refine ak_MI_of (Nat.le_of_ble_eq_true rfl) (am_k149_0 ?_)
  rw [hO]
  refine ⟨fun g => ⟨by omega, ?_⟩, fun g => q2 (by omega)⟩
  rw [ak_wj (show O < 1000000 by omega), ak_natn, show am_w32 (((O + 1 : Nat) : Int) - 1) = (O : Int) from by rw [ak_w _ (by omega)]; omega]
  exact q1 (by omega)
theorem am_s245 {Q : Int → ak_S → Prop} {X : Nat → ak_S → Prop} (hO : h.1 110 46 = (O : Int)) (hO2 : O < 200) (q1 : Q (O : Int) (ak_nwM h O)) : ak_MI e 1 (d + 1) ρ 245 [am_r 110] h Q X := by
  refine ak_MI_of (Nat.le_of_ble_eq_true rfl) (am_k245_0 ?_)
  rw [hO, ak_wj (show O < 1000000 by omega), ak_natn, show am_w32 (((O + 1 : Nat) : Int) - 1) = (O : Int) from by rw [ak_w _ (by omega)]; omega]
  exact ⟨by omega, by omega, q1⟩
theorem ak_WD_new (w : ak_WD S O B Mt T sh hc hm) (hO : O < 200) : ak_WD S (O + 1) B Mt T (ak_sh sh O 0) (ak_nwC hc O) (ak_nwM hm O) := by
  obtain ⟨w1, w2, w3, ⟨w4, w5, w6⟩, w7⟩ := w
  have FC : ∀ q k, ¬ (q = 34 ∧ k = O) → ¬ (q = 33 ∧ k = 0) → (ak_nwC hc O).1 q k = hc.1 q k := fun q k a b => (ak_up_out b).trans (ak_up_out a)
  have FM : ∀ q k, ¬ ((q = 141 ∨ q = 142) ∧ k = O) → ¬ (q = 110 ∧ k = 46) → (ak_nwM hm O).1 q k = hm.1 q k := fun q k a b => (ak_up_out b).trans ((ak_up_out (by omega)).trans (ak_up_out (by omega)))
  have e1 : (ak_nwC hc O).1 33 0 = ((O + 1 : Nat) : Int) ∧ (ak_nwC hc O).1 34 O = 0 := by unfold ak_nwC; simp [am_up]
  have e2 : (ak_nwM hm O).1 110 46 = ((O + 1 : Nat) : Int) ∧ (ak_nwM hm O).1 141 O = 0 ∧ (ak_nwM hm O).1 142 O = 0 := by unfold ak_nwM; simp [am_up]
  have jC : (ak_nwC hc O).2 = hc.2 := rfl
  have jM : (ak_nwM hm O).2 = hm.2 := rfl
  generalize ak_nwC hc O = h1 at FC e1 jC
  generalize ak_nwM hm O = h2 at FM e2 jM
  refine ⟨ak_Tok_mono w1 (by omega), ak_tC_out w2 (fun q k hq => FC q k (by omega) (by omega)), ⟨(FM _ _ (by omega) (by omega)).trans w3.1, fun s hs => ⟨(FM _ _ (by omega) (by omega)).trans (w3.2 s hs).1, fun k x hx => ?_⟩⟩, ⟨by omega, e1.1, e2.1⟩, fun i hi => ?_⟩
  · rw [FM 148 _ (by omega) (by omega), FM 149 _ (by omega) (by omega)]
    exact (w3.2 s hs).2 k x hx
  · by_cases hio : i = O
    · subst hio
      have es : ak_sh sh i 0 i = 0 := if_pos rfl
      rw [es]
      refine ⟨by have := w1.1.1; omega, e1.2, e2.2.2, ⟨?_, fun k x hx => ?_⟩, fun k x hx => ?_⟩
      · rw [w1.1.2.2]; exact e2.2.1
      · rw [w1.1.2.2] at hx; simp at hx
      · rw [w1.1.2.2] at hx; simp at hx
    · have es : ak_sh sh O 0 i = sh i := if_neg hio
      rw [es]
      obtain ⟨v1, v2, v3, v4, v5⟩ := w7 i (by omega)
      refine ⟨v1, (FC _ _ (by omega) (by omega)).trans v2, (FM _ _ (by omega) (by omega)).trans v3, ⟨(FM _ _ (by omega) (by omega)).trans v4.1, fun k x hx => ?_⟩, fun k x hx => ?_⟩
      · rw [FM 143 _ (by omega) (by omega), FM 144 _ (by omega) (by omega)]
        exact v4.2 k x hx
      · rw [FC 35 _ (by omega) (by omega), FM 145 _ (by omega) (by omega), jC, jM]
        have z := v5 k x hx
        refine ⟨fun g => ?_, z.2⟩
        obtain ⟨z1, z2, z3, z4, z5, z6⟩ := z.1 g
        exact ⟨z1, z2, z3, fun g => by have := z4 g; omega, z5, z6⟩
end NEWO
