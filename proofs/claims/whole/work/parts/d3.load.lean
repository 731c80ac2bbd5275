/-! load's second half: all is made anew, on both sides -/
section LOAD2
variable {e : ak_X3} {d : Nat} {ρ : List Nat} {h h' : ak_S} {Q : ak_S → Prop} {X : Nat → ak_S → Prop}
/-- the first i places of array q are f -/
def ak_zG (q : Nat) (f : Nat → Int) (h : ak_S) (i : Nat) : ak_S := (fun p k => if p = q ∧ k < i then f k else h.1 p k, h.2)
theorem ak_zG_step {q i : Nat} {f : Nat → Int} : (am_up (ak_zG q f h i).1 q i (f i), (ak_zG q f h i).2) = ak_zG q f h (i + 1) := by
  unfold ak_zG
  dsimp only
  congr 1
  funext p k
  simp only [am_up]
  by_cases hp : p = q
  · rw [if_pos hp]
    by_cases hk : k = i
    · rw [if_pos hk, if_pos ⟨hp, by omega⟩, hk]
    · rw [if_neg hk]
      by_cases hk2 : k < i
      · rw [if_pos ⟨hp, hk2⟩, if_pos ⟨hp, by omega⟩]
      · rw [if_neg (fun z => hk2 z.2), if_neg (fun z => hk2 (by omega))]
  · rw [if_neg hp, if_neg (fun z => hp z.1), if_neg (fun z => hp z.1)]
theorem ak_zG_0 {q : Nat} {f : Nat → Int} : ak_zG q f h 0 = h := by
  unfold ak_zG
  simp
theorem ak_zG_in {q i k : Nat} {f : Nat → Int} (hk : k < i) : (ak_zG q f h i).1 q k = f k := if_pos ⟨rfl, hk⟩
theorem ak_zG_out {q i p k : Nat} {f : Nat → Int} (hp : p ≠ q) : (ak_zG q f h i).1 p k = h.1 p k := if_neg (fun z => hp z.1)
theorem am_s363b (w : Q (ak_zG 68 (fun _ => 0) h 40)) : ak_MV e 0 (d + 1) ρ 363 [am_r 68, am_i 0] h Q X := by
  have lp : ∀ (c i : Nat), i + c = 40 → ak_W0 e 0 d 363 ρ 5 [some (am_r 68), some (am_i 0), some (am_i (i : Int)), some (am_i 40)] [] (ak_zG 68 (fun _ => 0) h i) (ak_qv Q X) := by
    intro c
    induction c with
    | zero =>
      intro i hi
      have : i = 40 := by omega
      subst this
      exact am_k363b_5 ⟨fun _ => w, fun z => absurd z (by decide)⟩
    | succ c ih =>
      intro i hi
      refine am_k363b_5 ⟨fun z => absurd z (by omega), fun _ => ⟨⟨by omega, by omega⟩, ?_⟩⟩
      rw [ak_wj (show i < 1000000 by omega), ak_natn]
      exact Eq.mpr (congrArg (fun x => ak_W0 e 0 d 363 ρ 5 [some (am_r 68), some (am_i 0), some (am_i ((i + 1 : Nat) : Int)), some (am_i 40)] [] x (ak_qv Q X)) (ak_zG_step (q := 68) (i := i) (f := fun _ => 0) (h := h))) (ih (i + 1) (by omega))
  refine ak_MV_of (Nat.le_of_ble_eq_true rfl) (am_k363b_0 ?_)
  have := lp 40 0 rfl
  rw [ak_zG_0] at this
  exact this
theorem am_s366b (q : ∀ h', h'.1 = h.1 → (∀ k, k < 7 → h'.2.1 64 k = 0) → (∀ p k, p ≠ 64 → h'.2.1 p k = h.2.1 p k) → h'.2.2 = h.2.2 → Q h') : ak_MV e 0 (d + 1) ρ 366 [am_r 64, am_l 0] h Q X := by
  have lp : ∀ (c i : Nat) (h1 : ak_S), i + c = 7 → h1.1 = h.1 → (∀ k, k < i → h1.2.1 64 k = 0) → (∀ p k, p ≠ 64 → h1.2.1 p k = h.2.1 p k) → h1.2.2 = h.2.2 → ak_W0 e 0 d 366 ρ 6 [some (am_r 64), some (am_l 0), none, some (am_i (i : Int)), some (am_i 7)] [] h1 (ak_qv Q X) := by
    intro c
    induction c with
    | zero =>
      intro i h1 hi a1 a2 a3 a4
      have : i = 7 := by omega
      subst this
      exact am_k366b_6 ⟨fun _ => q h1 a1 a2 a3 a4, fun z => absurd z (by decide)⟩
    | succ c ih =>
      intro i h1 hi a1 a2 a3 a4
      refine am_k366b_6 ⟨fun z => absurd z (by omega), fun _ => ⟨by omega, ?_⟩⟩
      rw [ak_wj (show i < 1000000 by omega), ak_natn]
      have G : ∀ p k, ¬ (p = 64 ∧ k = i) → am_up h1.2.1 64 i 0 p k = h1.2.1 p k := fun p k a => ak_up_out a
      refine ih (i + 1) (h1.1, am_up h1.2.1 64 i 0, h1.2.2) (by omega) a1 (fun k hk => ?_) (fun p k hp => (G p k (by omega)).trans (a3 p k hp)) a4
      by_cases hki : k = i
      · subst hki
        show am_up h1.2.1 64 k 0 64 k = 0
        simp [am_up]
      · exact (G 64 k (by omega)).trans (a2 k (by omega))
  exact ak_MV_of (Nat.le_of_ble_eq_true rfl) (am_k366b_0 (lp 7 0 h (by omega) rfl (fun k hk => absurd hk (Nat.not_lt_zero _)) (fun _ _ _ => rfl) rfl))
/-- the journal is empty -/
theorem am_s59 (q : ∀ h', (∀ k, k < 7 → h'.2.1 64 k = if k = 3 then -1 else 0) → (∀ k, k < 40 → h'.1 68 k = 0) → (∀ p k, p ≠ 68 → h'.1 p k = h.1 p k) → (∀ p k, p ≠ 64 → h'.2.1 p k = h.2.1 p k) → h'.2.2 = h.2.2 → Q h') : ak_MV e 0 (d + 3) ρ 59 [am_r 63] h Q X := by
  refine ak_MV_of (Nat.le_of_ble_eq_true rfl) (am_k59_0 (ak_MV_of (Nat.le_of_ble_eq_true rfl) (am_k60_0 (am_s366b (fun h1 a1 a2 a3 a4 => ⟨by decide, am_s363b ?_⟩)))))
  refine q _ (fun k hk => ?_) (fun k hk => ak_zG_in hk) (fun p k hp => (ak_zG_out hp).trans (by rw [a1])) (fun p k hp => ?_) a4
  · show am_up h1.2.1 64 3 (-1) 64 k = _
    by_cases h3 : k = 3
    · subst h3; simp [am_up]
    · rw [if_neg h3, ak_up_out (by omega)]; exact a2 k hk
  · show am_up h1.2.1 64 3 (-1) p k = _
    rw [ak_up_out (by omega)]; exact a3 p k hp
theorem am_s139 (w : Q (ak_zG 60 (fun i => 559 - (i : Int)) (am_up (am_up h.1 49 14 0) 49 11 560, h.2) 560)) : ak_MV e 0 (d + 1) ρ 139 [am_r 49] h Q X := by
  generalize hh : ((am_up (am_up h.1 49 14 0) 49 11 560, h.2) : ak_S) = h1 at w
  have lp : ∀ (c i : Nat), i + c = 560 → ak_W0 e 0 d 139 ρ 14 [some (am_r 49), some (am_i (i : Int))] [] (ak_zG 60 (fun i => 559 - (i : Int)) h1 i) (ak_qv Q X) := by
    intro c
    induction c with
    | zero =>
      intro i hi
      have : i = 560 := by omega
      subst this
      exact am_k139_14 ⟨fun _ => w, fun z => absurd z (by decide)⟩
    | succ c ih =>
      intro i hi
      refine am_k139_14 ⟨fun z => absurd z (by omega), fun _ => ⟨⟨by omega, by omega⟩, ?_⟩⟩
      rw [ak_wj (show i < 1000000 by omega), ak_natn, ak_w (559 - (i : Int)) (by omega)]
      exact Eq.mpr (congrArg (fun x => ak_W0 e 0 d 139 ρ 14 [some (am_r 49), some (am_i ((i + 1 : Nat) : Int))] [] x (ak_qv Q X)) (ak_zG_step (q := 60) (i := i) (f := fun i => 559 - (i : Int)) (h := h1))) (ih (i + 1) (by omega))
  refine ak_MV_of (Nat.le_of_ble_eq_true rfl) (am_k139_0 ?_)
  rw [hh]
  have := lp 560 0 rfl
  rw [ak_zG_0] at this
  exact this
def ak_wcC (h : ak_S) : ak_S := (am_up (am_up (am_up (am_up h.1 33 4 1) 37 0 0) 38 0 0) 33 0 0, h.2)
theorem am_s148 (w : Q (ak_nwC (ak_nwC (ak_nwC (ak_nwC (ak_wcC h) 0) 1) 2) 3)) : ak_MV e 0 (d + 2) ρ 148 [am_r 33] h Q X := by
  have o0 : ∀ (g : ak_S) (o : Nat), (ak_nwC g o).1 33 0 = ((o + 1 : Nat) : Int) := fun g o => by unfold ak_nwC; simp [am_up]
  refine ak_MV_of (Nat.le_of_ble_eq_true rfl) (am_k148_0 ⟨by decide, by decide, ?_⟩)
  refine am_k148_26 ⟨fun z => absurd z (by decide), fun _ => am_s149 (O := 0) (by simp [am_up]) (fun _ => ?_) (fun z => absurd z (by decide))⟩
  refine am_k148_26 ⟨fun z => absurd z (by decide), fun _ => am_s149 (O := 1) (o0 _ _) (fun _ => ?_) (fun z => absurd z (by decide))⟩
  refine am_k148_26 ⟨fun z => absurd z (by decide), fun _ => am_s149 (O := 2) (o0 _ _) (fun _ => ?_) (fun z => absurd z (by decide))⟩
  refine am_k148_26 ⟨fun z => absurd z (by decide), fun _ => am_s149 (O := 3) (o0 _ _) (fun _ => ?_) (fun z => absurd z (by decide))⟩
  exact am_k148_26 ⟨fun _ => w, fun z => absurd z (by decide)⟩
/-- what the one's second half does -/
def ak_ldC (h h' : ak_S) : Prop := (h'.1 33 0 = 4 ∧ h'.1 33 4 = 1 ∧ h'.1 37 0 = 0 ∧ ∀ i, i < 4 → h'.1 34 i = 0) ∧ ((∀ k, k < 900 → h'.1 47 k = 0) ∧ h'.1 44 4 = 0 ∧ h'.1 44 5 = 0) ∧ (h'.1 49 14 = 0 ∧ h'.1 49 11 = 560 ∧ ∀ i : Nat, i < 560 → h'.1 60 i = 559 - (i : Int)) ∧
  ((∀ k, k < 7 → h'.2.1 64 k = if k = 3 then -1 else 0) ∧ ∀ k, k < 40 → h'.1 68 k = 0) ∧
  (∀ q k, ¬ (q = 33 ∧ (k = 0 ∨ k = 4)) → ¬ (q = 44 ∧ (k = 4 ∨ k = 5)) → ¬ (q = 49 ∧ (k = 11 ∨ k = 14)) → ¬ (q = 34 ∨ q = 37 ∨ q = 38 ∨ q = 47 ∨ q = 60 ∨ q = 68) → h'.1 q k = h.1 q k) ∧ (∀ q k, q ≠ 64 → h'.2.1 q k = h.2.1 q k) ∧ h'.2.2 = h.2.2
theorem am_ldC (q : ∀ h', ak_ldC h h' → Q h') : ak_MV e 0 (d + 3) ρ 148 [am_r 33] h (fun h1 => ak_MV e 0 (d + 3) ρ 106 [am_r 44] h1 (fun h2 => ak_MV e 0 (d + 3) ρ 139 [am_r 49] h2 (fun h3 => ak_MV e 0 (d + 3) ρ 59 [am_r 63] h3 Q (fun _ _ => False)) (fun _ _ => False)) (fun _ _ => False)) (fun _ _ => False) := by
  refine am_s148 (ak_MV_of (Nat.le_of_ble_eq_true rfl) (am_k106_0 (am_s107 (am_s139 (am_s59 (fun h' a1 a2 a3 a4 a5 => q h' ?_))))))
  have w0 : ∀ q k, ¬ (q = 33 ∧ (k = 0 ∨ k = 4)) → ¬ (q = 34 ∨ q = 37 ∨ q = 38) → (ak_nwC (ak_nwC (ak_nwC (ak_nwC (ak_wcC h) 0) 1) 2) 3).1 q k = h.1 q k := by
    intro q k b1 b2
    unfold ak_nwC ak_wcC
    dsimp only
    rw [ak_up_out (by omega), ak_up_out (by omega), ak_up_out (by omega), ak_up_out (by omega), ak_up_out (by omega), ak_up_out (by omega), ak_up_out (by omega), ak_up_out (by omega), ak_up_out (by omega), ak_up_out (by omega), ak_up_out (by omega), ak_up_out (by omega)]
  have w1 : (ak_nwC (ak_nwC (ak_nwC (ak_nwC (ak_wcC h) 0) 1) 2) 3).1 33 0 = 4 ∧ (ak_nwC (ak_nwC (ak_nwC (ak_nwC (ak_wcC h) 0) 1) 2) 3).1 33 4 = 1 ∧ (ak_nwC (ak_nwC (ak_nwC (ak_nwC (ak_wcC h) 0) 1) 2) 3).1 37 0 = 0 := by
    unfold ak_nwC ak_wcC
    simp [am_up]
  have w2 : ∀ i, i < 4 → (ak_nwC (ak_nwC (ak_nwC (ak_nwC (ak_wcC h) 0) 1) 2) 3).1 34 i = 0 := by
    intro i hi
    unfold ak_nwC ak_wcC
    have : i = 0 ∨ i = 1 ∨ i = 2 ∨ i = 3 := by omega
    rcases this with rfl | rfl | rfl | rfl <;> simp [am_up]
  have wJ : (ak_nwC (ak_nwC (ak_nwC (ak_nwC (ak_wcC h) 0) 1) 2) 3).2 = h.2 := rfl
  generalize ak_nwC (ak_nwC (ak_nwC (ak_nwC (ak_wcC h) 0) 1) 2) 3 = g at a3 a4 a5 w0 w1 w2 wJ
  have F : ∀ q k, ¬ (q = 44 ∧ (k = 4 ∨ k = 5)) → ¬ (q = 49 ∧ (k = 11 ∨ k = 14)) → ¬ (q = 47 ∨ q = 60 ∨ q = 68) → h'.1 q k = g.1 q k := by
    intro q k b1 b2 b3
    rw [a3 q k (by omega), ak_zG_out (by omega)]
    show am_up (am_up (am_up (ak_fC g).1 44 5 0) 49 14 0) 49 11 560 q k = _
    rw [ak_up_out (by omega), ak_up_out (by omega), ak_up_out (by omega)]
    show am_up (ak_zC g 900).1 44 4 0 q k = _
    rw [ak_up_out (by omega)]
    exact if_neg (by omega)
  have F3 : ∀ q k, q ≠ 68 → q ≠ 60 → h'.1 q k = am_up (am_up (am_up (ak_fC g).1 44 5 0) 49 14 0) 49 11 560 q k := fun q k b1 b2 => (a3 q k b1).trans (ak_zG_out b2)
  refine ⟨⟨(F _ _ (by omega) (by omega) (by omega)).trans w1.1, (F _ _ (by omega) (by omega) (by omega)).trans w1.2.1, (F _ _ (by omega) (by omega) (by omega)).trans w1.2.2, fun i hi => (F _ _ (by omega) (by omega) (by omega)).trans (w2 i hi)⟩, ⟨fun k hk => ?_, ?_, ?_⟩, ⟨?_, ?_, fun i hi => ?_⟩, ⟨a1, a2⟩, fun q k b1 b2 b3 b4 => (F q k b2 b3 (by omega)).trans (w0 q k b1 (by omega)), fun q k b => (a4 q k b).trans (by show g.2.1 q k = _; rw [wJ]), a5.trans (by show g.2.2 = _; rw [wJ])⟩
  · rw [F3 47 k (by omega) (by omega), ak_up_out (by omega), ak_up_out (by omega), ak_up_out (by omega)]
    show am_up (ak_zC g 900).1 44 4 0 47 k = 0
    rw [ak_up_out (by omega)]
    exact if_pos ⟨rfl, hk⟩
  · rw [F3 44 4 (by omega) (by omega), ak_up_out (by omega), ak_up_out (by omega), ak_up_out (by omega)]
    show am_up (ak_zC g 900).1 44 4 0 44 4 = 0
    simp [am_up]
  · rw [F3 44 5 (by omega) (by omega)]; simp [am_up]
  · rw [F3 49 14 (by omega) (by omega)]; simp [am_up]
  · rw [F3 49 11 (by omega) (by omega)]; simp [am_up]
  · rw [a3 60 i (by omega)]; exact ak_zG_in hi
end LOAD2
