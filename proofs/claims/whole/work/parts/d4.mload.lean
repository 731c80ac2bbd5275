/-! load's second half, the model -/
section LOAD3
variable {e : ak_X3} {d : Nat} {ρ : List Nat} {h h' : ak_S} {Q : ak_S → Prop} {X : Nat → ak_S → Prop}
/-- what the other's second half does -/
def ak_ldM (h h' : ak_S) : Prop := (h'.1 110 46 = 4 ∧ h'.1 110 53 = 1 ∧ h'.1 147 0 = 0 ∧ h'.1 110 57 = 0 ∧ ∀ i, i < 4 → h'.1 141 i = 0 ∧ h'.1 142 i = 0) ∧ ((∀ k, k < 564 → h'.1 173 k = 0 ∧ h'.1 174 k = 0 ∧ h'.1 175 k = 0) ∧ ∀ k, k < 40 → h'.1 186 k = 0) ∧
  ((∀ q k, 158 ≤ q → q ≤ 163 → k < 150 → h'.1 q k = 0) ∧ h'.1 110 78 = 0 ∧ h'.1 110 67 = -1 ∧ h'.1 110 84 = 0) ∧ (h'.1 110 106 = 0 ∧ h'.2.1 110 107 = 0 ∧ h'.1 110 104 = 0 ∧ h'.1 110 108 = -1 ∧ h'.1 110 109 = 0 ∧ h'.1 110 110 = 0 ∧ h'.1 110 111 = 0) ∧
  (∀ q k, ¬ (q = 110 ∧ (k = 46 ∨ k = 53 ∨ k = 57 ∨ k = 67 ∨ k = 78 ∨ k = 84 ∨ k = 104 ∨ k = 106 ∨ (108 ≤ k ∧ k ≤ 111))) → ¬ (q = 141 ∨ q = 142 ∨ q = 147 ∨ (158 ≤ q ∧ q ≤ 163) ∨ (173 ≤ q ∧ q ≤ 175) ∨ q = 186) → h'.1 q k = h.1 q k) ∧ (∀ q k, ¬ (q = 110 ∧ k = 107) → h'.2.1 q k = h.2.1 q k) ∧ h'.2.2 = h.2.2
def ak_wcM (h : ak_S) : ak_S := (am_up (am_up (am_up (am_up h.1 110 46 0) 110 53 1) 147 0 0) 110 57 0, h.2)
def ak_jrM (h : ak_S) : ak_S := (am_up (am_up (am_up (am_up (am_up (am_up h.1 110 106 0) 110 108 (-1)) 110 109 0) 110 110 0) 110 111 0) 110 104 0, am_up h.2.1 110 107 0, h.2.2)
theorem am_s264 (w : Q (ak_jrM h)) : ak_MV e 1 (d + 1) ρ 264 [am_r 110] h Q X := ak_MV_of (Nat.le_of_ble_eq_true rfl) (am_k264_0 w)
theorem am_l263_78 (w : ∀ h' : ak_S, (∀ k, k < 40 → h'.1 186 k = 0) → (∀ q k, q ≠ 186 → h'.1 q k = h.1 q k) → h'.2 = h.2 → Q (ak_jrM (ak_fM (am_up (am_up h'.1 110 67 (-1)) 110 84 0, h'.2)))) : ak_W0 e 1 (d + 1) 263 ρ 78 [some (am_r 110), some (am_i 0), none] [] h (ak_qv Q X) := by
  have lp : ∀ (c i : Nat) (h1 : ak_S), i + c = 40 → (∀ k, k < i → h1.1 186 k = 0) → (∀ q k, q ≠ 186 → h1.1 q k = h.1 q k) → h1.2 = h.2 → ak_W0 e 1 (d + 1) 263 ρ 78 [some (am_r 110), some (am_i (i : Int)), none] [] h1 (ak_qv Q X) := by
    intro c
    induction c with
    | zero =>
      intro i h1 hi a1 a2 a3
      have : i = 40 := by omega
      subst this
      exact am_k263_78 ⟨fun _ => am_s252 (am_s264 (w h1 a1 a2 a3)), fun z => absurd z (by decide)⟩
    | succ c ih =>
      intro i h1 hi a1 a2 a3
      refine am_k263_78 ⟨fun z => absurd z (by omega), fun _ => ⟨⟨by omega, by omega⟩, ?_⟩⟩
      rw [ak_wj (show i < 1000000 by omega), ak_natn]
      have G : ∀ p k, ¬ (p = 186 ∧ k = i) → am_up h1.1 186 i 0 p k = h1.1 p k := fun p k a => ak_up_out a
      refine ih (i + 1) (am_up h1.1 186 i 0, h1.2) (by omega) (fun k hk => ?_) (fun p k hp => (G p k (by omega)).trans (a2 p k hp)) a3
      by_cases hki : k = i
      · subst hki
        show am_up h1.1 186 k 0 186 k = 0
        simp [am_up]
      · exact (G 186 k (by omega)).trans (a1 k (by omega))
  exact lp 40 0 h rfl (fun k hk => absurd hk (Nat.not_lt_zero _)) (fun _ _ _ => rfl) rfl
theorem am_l263_42 (w : ∀ h' : ak_S, (∀ k, k < 564 → h'.1 173 k = 0 ∧ h'.1 174 k = 0 ∧ h'.1 175 k = 0) → (∀ q k, ¬ (173 ≤ q ∧ q ≤ 175) → h'.1 q k = h.1 q k) → h'.2 = h.2 → ak_W0 e 1 d 263 ρ 78 [some (am_r 110), some (am_i 0), none] [] h' (ak_qv Q X)) : ak_W0 e 1 d 263 ρ 42 [some (am_r 110), some (am_i 0), none] [] h (ak_qv Q X) := by
  have lp : ∀ (c i : Nat) (h1 : ak_S), i + c = 564 → (∀ k, k < i → h1.1 173 k = 0 ∧ h1.1 174 k = 0 ∧ h1.1 175 k = 0) → (∀ q k, ¬ (173 ≤ q ∧ q ≤ 175) → h1.1 q k = h.1 q k) → h1.2 = h.2 → ak_W0 e 1 d 263 ρ 42 [some (am_r 110), some (am_i (i : Int)), none] [] h1 (ak_qv Q X) := by
    intro c
    induction c with
    | zero =>
      intro i h1 hi a1 a2 a3
      have : i = 564 := by omega
      subst this
      exact am_k263_42 ⟨fun _ => w h1 a1 a2 a3, fun z => absurd z (by decide)⟩
    | succ c ih =>
      intro i h1 hi a1 a2 a3
      have b : (0 ≤ (i : Int) ∧ (i : Int) < 564) ∧ ((0 : Int) = 0 ∨ (0 : Int) = 1) := ⟨by omega, Or.inl rfl⟩
      refine am_k263_42 ⟨fun z => absurd z (by omega), fun _ => ⟨b, b, b, ?_⟩⟩
      rw [ak_wj (show i < 1000000 by omega), ak_natn]
      have G : ∀ p k, ¬ ((173 ≤ p ∧ p ≤ 175) ∧ k = i) → am_up (am_up (am_up h1.1 173 i 0) 174 i 0) 175 i 0 p k = h1.1 p k := fun p k a => (ak_up_out (by omega)).trans ((ak_up_out (by omega)).trans (ak_up_out (by omega)))
      refine ih (i + 1) (am_up (am_up (am_up h1.1 173 i 0) 174 i 0) 175 i 0, h1.2) (by omega) (fun k hk => ?_) (fun p k hp => (G p k (by omega)).trans (a2 p k hp)) a3
      by_cases hki : k = i
      · subst hki
        show am_up (am_up (am_up h1.1 173 k 0) 174 k 0) 175 k 0 173 k = 0 ∧ am_up (am_up (am_up h1.1 173 k 0) 174 k 0) 175 k 0 174 k = 0 ∧ am_up (am_up (am_up h1.1 173 k 0) 174 k 0) 175 k 0 175 k = 0
        simp [am_up]
      · have z := a1 k (by omega)
        exact ⟨(G 173 k (by omega)).trans z.1, (G 174 k (by omega)).trans z.2.1, (G 175 k (by omega)).trans z.2.2⟩
  exact lp 564 0 h rfl (fun k hk => absurd hk (Nat.not_lt_zero _)) (fun _ _ _ => rfl) rfl
theorem am_s263 (q : ∀ h', ak_ldM h h' → Q h') : ak_MV e 1 (d + 2) ρ 263 [am_r 110] h Q X := by
  have o0 : ∀ (g : ak_S) (o : Nat), (ak_nwM g o).1 110 46 = ((o + 1 : Nat) : Int) := fun g o => by unfold ak_nwM; simp [am_up]
  refine ak_MV_of (Nat.le_of_ble_eq_true rfl) (am_k263_0 ⟨by decide, ?_⟩)
  refine am_k263_24 ⟨fun z => absurd z (by decide), fun _ => am_s245 (O := 0) (by simp [am_up]) (by decide) ?_⟩
  refine am_k263_24 ⟨fun z => absurd z (by decide), fun _ => am_s245 (O := 1) (o0 _ _) (by decide) ?_⟩
  refine am_k263_24 ⟨fun z => absurd z (by decide), fun _ => am_s245 (O := 2) (o0 _ _) (by decide) ?_⟩
  refine am_k263_24 ⟨fun z => absurd z (by decide), fun _ => am_s245 (O := 3) (o0 _ _) (by decide) ?_⟩
  refine am_k263_24 ⟨fun _ => ?_, fun z => absurd z (by decide)⟩
  have w0 : ∀ q k, ¬ (q = 110 ∧ (k = 46 ∨ k = 53 ∨ k = 57)) → ¬ (q = 141 ∨ q = 142 ∨ q = 147) → (ak_nwM (ak_nwM (ak_nwM (ak_nwM (ak_wcM h) 0) 1) 2) 3).1 q k = h.1 q k := by
    intro q k b1 b2
    unfold ak_nwM ak_wcM
    dsimp only
    rw [ak_up_out (by omega), ak_up_out (by omega), ak_up_out (by omega), ak_up_out (by omega), ak_up_out (by omega), ak_up_out (by omega), ak_up_out (by omega), ak_up_out (by omega), ak_up_out (by omega), ak_up_out (by omega), ak_up_out (by omega), ak_up_out (by omega), ak_up_out (by omega), ak_up_out (by omega), ak_up_out (by omega), ak_up_out (by omega)]
  have w1 : (ak_nwM (ak_nwM (ak_nwM (ak_nwM (ak_wcM h) 0) 1) 2) 3).1 110 46 = 4 ∧ (ak_nwM (ak_nwM (ak_nwM (ak_nwM (ak_wcM h) 0) 1) 2) 3).1 110 53 = 1 ∧ (ak_nwM (ak_nwM (ak_nwM (ak_nwM (ak_wcM h) 0) 1) 2) 3).1 147 0 = 0 ∧ (ak_nwM (ak_nwM (ak_nwM (ak_nwM (ak_wcM h) 0) 1) 2) 3).1 110 57 = 0 := by
    unfold ak_nwM ak_wcM
    simp [am_up]
  have w2 : ∀ i, i < 4 → (ak_nwM (ak_nwM (ak_nwM (ak_nwM (ak_wcM h) 0) 1) 2) 3).1 141 i = 0 ∧ (ak_nwM (ak_nwM (ak_nwM (ak_nwM (ak_wcM h) 0) 1) 2) 3).1 142 i = 0 := by
    intro i hi
    unfold ak_nwM ak_wcM
    have : i = 0 ∨ i = 1 ∨ i = 2 ∨ i = 3 := by omega
    rcases this with rfl | rfl | rfl | rfl <;> simp [am_up]
  have wJ : (ak_nwM (ak_nwM (ak_nwM (ak_nwM (ak_wcM h) 0) 1) 2) 3).2 = h.2 := rfl
  show ak_W0 e 1 (d + 1) 263 ρ 42 [some (am_r 110), some (am_i 0), none] [] (ak_nwM (ak_nwM (ak_nwM (ak_nwM (ak_wcM h) 0) 1) 2) 3) (ak_qv Q X)
  generalize ak_nwM (ak_nwM (ak_nwM (ak_nwM (ak_wcM h) 0) 1) 2) 3 = g at w0 w1 w2 wJ
  refine am_l263_42 (fun h1 a1 a2 a3 => am_l263_78 (fun h2 b1 b2 b3 => ?_))
  have e2 : ∀ q k, ¬ (q = 110 ∧ (k = 67 ∨ k = 78 ∨ k = 84 ∨ k = 104 ∨ k = 106 ∨ (108 ≤ k ∧ k ≤ 111))) → ¬ (158 ≤ q ∧ q ≤ 163) → (ak_jrM (ak_fM (am_up (am_up h2.1 110 67 (-1)) 110 84 0, h2.2))).1 q k = h2.1 q k := by
    intro q k c1 c2
    unfold ak_jrM ak_fM
    dsimp only
    rw [ak_up_out (by omega), ak_up_out (by omega), ak_up_out (by omega), ak_up_out (by omega), ak_up_out (by omega), ak_up_out (by omega), ak_up_out (by omega)]
    refine (if_neg (by omega)).trans ?_
    show am_up (am_up h2.1 110 67 (-1)) 110 84 0 q k = _
    rw [ak_up_out (by omega), ak_up_out (by omega)]
  have e3 : ∀ q k, 158 ≤ q → q ≤ 163 → k < 150 → (ak_jrM (ak_fM (am_up (am_up h2.1 110 67 (-1)) 110 84 0, h2.2))).1 q k = 0 := by
    intro q k c1 c2 c3
    unfold ak_jrM ak_fM
    dsimp only
    rw [ak_up_out (by omega), ak_up_out (by omega), ak_up_out (by omega), ak_up_out (by omega), ak_up_out (by omega), ak_up_out (by omega), ak_up_out (by omega)]
    exact if_pos ⟨⟨c1, c2⟩, c3⟩
  have e4 : (ak_jrM (ak_fM (am_up (am_up h2.1 110 67 (-1)) 110 84 0, h2.2))).1 110 78 = 0 ∧ (ak_jrM (ak_fM (am_up (am_up h2.1 110 67 (-1)) 110 84 0, h2.2))).1 110 67 = -1 ∧ (ak_jrM (ak_fM (am_up (am_up h2.1 110 67 (-1)) 110 84 0, h2.2))).1 110 84 = 0 := by
    unfold ak_jrM ak_fM ak_zM
    simp [am_up]
  have e5 : (ak_jrM (ak_fM (am_up (am_up h2.1 110 67 (-1)) 110 84 0, h2.2))).1 110 106 = 0 ∧ (ak_jrM (ak_fM (am_up (am_up h2.1 110 67 (-1)) 110 84 0, h2.2))).2.1 110 107 = 0 ∧ (ak_jrM (ak_fM (am_up (am_up h2.1 110 67 (-1)) 110 84 0, h2.2))).1 110 104 = 0 ∧ (ak_jrM (ak_fM (am_up (am_up h2.1 110 67 (-1)) 110 84 0, h2.2))).1 110 108 = -1 ∧ (ak_jrM (ak_fM (am_up (am_up h2.1 110 67 (-1)) 110 84 0, h2.2))).1 110 109 = 0 ∧ (ak_jrM (ak_fM (am_up (am_up h2.1 110 67 (-1)) 110 84 0, h2.2))).1 110 110 = 0 ∧ (ak_jrM (ak_fM (am_up (am_up h2.1 110 67 (-1)) 110 84 0, h2.2))).1 110 111 = 0 := by
    unfold ak_jrM ak_fM ak_zM
    simp [am_up]
  have eJ : (∀ q k, ¬ (q = 110 ∧ k = 107) → (ak_jrM (ak_fM (am_up (am_up h2.1 110 67 (-1)) 110 84 0, h2.2))).2.1 q k = h2.2.1 q k) ∧ (ak_jrM (ak_fM (am_up (am_up h2.1 110 67 (-1)) 110 84 0, h2.2))).2.2 = h2.2.2 := ⟨fun q k c => ak_up_out c, rfl⟩
  generalize ak_jrM (ak_fM (am_up (am_up h2.1 110 67 (-1)) 110 84 0, h2.2)) = h3 at e2 e3 e4 e5 eJ
  have F : ∀ q k, ¬ (q = 110 ∧ (k = 67 ∨ k = 78 ∨ k = 84 ∨ k = 104 ∨ k = 106 ∨ (108 ≤ k ∧ k ≤ 111))) → ¬ ((158 ≤ q ∧ q ≤ 163) ∨ (173 ≤ q ∧ q ≤ 175) ∨ q = 186) → h3.1 q k = g.1 q k := fun q k c1 c2 => (e2 q k c1 (by omega)).trans ((b2 q k (by omega)).trans (a2 q k (by omega)))
  have F2 : ∀ q k, 173 ≤ q → q ≤ 175 → h3.1 q k = h1.1 q k := fun q k c1 c2 => (e2 q k (by omega) (by omega)).trans (b2 q k (by omega))
  refine q h3 ⟨⟨(F _ _ (by omega) (by omega)).trans w1.1, (F _ _ (by omega) (by omega)).trans w1.2.1, (F _ _ (by omega) (by omega)).trans w1.2.2.1, (F _ _ (by omega) (by omega)).trans w1.2.2.2, fun i hi => ⟨(F _ _ (by omega) (by omega)).trans (w2 i hi).1, (F _ _ (by omega) (by omega)).trans (w2 i hi).2⟩⟩,
    ⟨fun k hk => ⟨(F2 _ _ (by omega) (by omega)).trans (a1 k hk).1, (F2 _ _ (by omega) (by omega)).trans (a1 k hk).2.1, (F2 _ _ (by omega) (by omega)).trans (a1 k hk).2.2⟩, fun k hk => (e2 186 k (by omega) (by omega)).trans (b1 k hk)⟩, ⟨e3, e4⟩, e5,
    fun q k c1 c2 => (F q k (by omega) (by omega)).trans (w0 q k (by omega) (by omega)), fun q k c => (eJ.1 q k c).trans (by rw [b3, a3, wJ]), eJ.2.trans (by rw [b3, a3, wJ])⟩
end LOAD3
