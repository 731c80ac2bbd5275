/-! voidFor, of the one -/
section VOID
variable {e : ak_X3} {d o : Nat} {ρ : List Nat} {R : ak_E → List Nat} {h h' h2 : ak_S} {E : Nat → List ak_E} {Et : List ak_E} {V : Nat → Int} {G : List (Int × Int × Int × Int)} {X : Nat → ak_S → Prop}
/-- what voidFor changes -/
def ak_fVc (h h' : ak_S) : Prop := (∀ q k, ¬ (q = 44 ∧ (k = 4 ∨ k = 5)) → q ≠ 45 → q ≠ 48 → ¬ (q = 47 ∧ (k % 6 = 1 ∨ k % 6 = 4)) → h'.1 q k = h.1 q k) ∧ (∀ q k, q ≠ 46 → h'.2.1 q k = h.2.1 q k) ∧ h'.2.2 = h.2.2
theorem ak_gC_fr {first : Nat} {E : List ak_E} (w : ak_gC R first E h) (f : ∀ k, 5 * first ≤ k → k < 5 * (first + E.length) → h'.1 45 k = h.1 45 k) (g : ∀ k, 4 * first ≤ k → k < 4 * (first + E.length) → h'.2.1 46 k = h.2.1 46 k) : ak_gC R first E h' := by
  intro k en hk
  have hk2 := ak_get_none hk
  obtain ⟨⟨w1, w2, w3, w4, w5⟩, w6⟩ := w k en hk
  refine ⟨⟨(f _ (by omega) (by omega)).trans w1, (f _ (by omega) (by omega)).trans w2, (f _ (by omega) (by omega)).trans w3, (f _ (by omega) (by omega)).trans w4, (f _ (by omega) (by omega)).trans w5⟩, fun i hi => ?_⟩
  rw [g _ (by omega) (by omega)]
  exact w6 i hi
theorem ak_gnC_fr (w : ak_gnC G h) (f : ∀ q k, (q = 44 ∧ k = 5) ∨ q = 48 → h'.1 q k = h.1 q k) : ak_gnC G h' := ⟨(f _ _ (by omega)).trans w.1, fun j g hg => ⟨(f _ _ (by omega)).trans (w.2 j g hg).1, (f _ _ (by omega)).trans (w.2 j g hg).2.1, (f _ _ (by omega)).trans (w.2 j g hg).2.2.1, (f _ _ (by omega)).trans (w.2 j g hg).2.2.2⟩⟩
theorem ak_w6c {r c : Nat} (h : 6 * r + c < 100000) : am_w32 (am_w32 ((r : Int) * 6) + (c : Int)) = ((6 * r + c : Nat) : Int) := by
  rw [ak_w ((r : Int) * 6) (by omega), ak_w _ (by omega)]
  omega
theorem am_s116 {Q : ak_S → Prop} (ho : o < 200) (B : ∀ i, i < 150 → (E i).length ≤ 4 ∧ ak_gC R (4 * i) (E i) h ∧ h.1 47 (6 * i + 1) = ((E i).length : Int) ∧ h.1 47 (6 * i + 4) = V i) (Bt : Et.length ≤ 128 ∧ ak_gC R 600 Et h ∧ h.1 44 4 = (Et.length : Int))
    (q : ∀ h', (∀ i, i < 150 → ak_gC R (4 * i) ((E i).filter (ak_kp R o)) h' ∧ h'.1 47 (6 * i + 1) = (((E i).filter (ak_kp R o)).length : Int) ∧ h'.1 47 (6 * i + 4) = am_w32 (V i + (((E i).length : Int) - (((E i).filter (ak_kp R o)).length : Int)))) → ak_gC R 600 (Et.filter (ak_kp R o)) h' → h'.1 44 4 = ((Et.filter (ak_kp R o)).length : Int) →
      ak_gnC (ak_gl R o E 150 ++ (Et.filter (fun en => !ak_kp R o en)).map (ak_gg (-1))) h' → ak_fVc h h' → Q h') : ak_MV e 0 (d + 3) ρ 116 [am_r 44, am_i (o : Int)] h Q X := by
  have lp : ∀ (c i : Nat) (h1 : ak_S), i + c = 150 → (∀ j, j < 150 → ak_gC R (4 * j) (ak_Ec R o E i j) h1 ∧ h1.1 47 (6 * j + 1) = ((ak_Ec R o E i j).length : Int) ∧ h1.1 47 (6 * j + 4) = ak_Vc R o E V i j) → ak_gC R 600 Et h1 → h1.1 44 4 = (Et.length : Int) → ak_gnC (ak_gl R o E i) h1 → ak_fVc h h1 →
      ak_W0 e 0 (d + 2) 116 ρ 7 [some (am_r 44), some (am_i (o : Int)), some (am_i (i : Int)), none, none] [] h1 (ak_qv Q X) := by
    intro c
    induction c with
    | zero =>
      intro i h1 hi bs bt b4 gn f
      have : i = 150 := by omega
      subst this
      have gl := ak_gl_len (R := R) (o := o) (fun j hj => (B j hj).1) 150 (Nat.le_refl _)
      refine am_k116_7 ⟨fun _ => ?_, fun g => absurd g (by decide)⟩
      rw [b4]
      refine am_s117 (d := d) (Or.inl ⟨rfl, rfl⟩) bt (by have := Bt.1; omega) gn (by have := Bt.1; omega) ho (fun h3 g3 gn3 f3 => ?_)
      have F : ∀ q k, ¬ (q = 44 ∧ k = 4) → am_up h3.1 44 4 ((Et.filter (ak_kp R o)).length : Int) q k = h3.1 q k := fun q k a => ak_up_out a
      refine q (am_up h3.1 44 4 ((Et.filter (ak_kp R o)).length : Int), h3.2) (fun j hj => ?_) (ak_gC_fr g3 (fun k a b => F 45 k (by omega)) (fun k a b => rfl)) ak_up_at1 (ak_gnC_fr gn3 (fun q k hq => F q k (by omega))) ⟨fun q k a b c d' => (F q k (by omega)).trans ((f3.1 q k (by omega) c (by omega)).trans (f.1 q k a b c d')), fun q k a => (f3.2.1 q k (by omega)).trans (f.2.1 q k a), f3.2.2.trans f.2.2⟩
      obtain ⟨z1, z2, z3⟩ := bs j hj
      unfold ak_Ec at z1 z2
      unfold ak_Vc at z3
      rw [if_pos hj] at z1 z2 z3
      have hl := (B j hj).1
      have hf := List.length_filter_le (ak_kp R o) (E j)
      exact ⟨ak_gC_fr z1 (fun k a b => (F 45 k (by omega)).trans (f3.1 45 k (by omega) (by omega) (by omega))) (fun k a b => f3.2.1 46 k (by omega)), (F _ _ (by omega)).trans ((f3.1 _ _ (by omega) (by omega) (by omega)).trans z2), (F _ _ (by omega)).trans ((f3.1 _ _ (by omega) (by omega) (by omega)).trans z3)⟩
    | succ c ih =>
      intro i h1 hi bs bt b4 gn f
      have hiN : i < 150 := by omega
      have gl := ak_gl_len (R := R) (o := o) (fun j hj => (B j hj).1) i (by omega)
      obtain ⟨y1, y2, y3, y4⟩ := B i hiN
      obtain ⟨z1, z2, z3⟩ := bs i hiN
      have eE : ak_Ec R o E i i = E i := if_neg (Nat.lt_irrefl _)
      have eV : ak_Vc R o E V i i = V i := if_neg (Nat.lt_irrefl _)
      rw [eE] at z1 z2
      rw [eV] at z3
      have hf := List.length_filter_le (ak_kp R o) (E i)
      refine am_k116_7 ⟨fun g => by omega, fun _ => ?_⟩
      rw [show am_w32 (am_w32 ((i : Int) * 6) + 1) = ((6 * i + 1 : Nat) : Int) from ak_w6c (c := 1) (by omega), show am_w32 (am_w32 ((i : Int) * 6) + 4) = ((6 * i + 4 : Nat) : Int) from ak_w6c (c := 4) (by omega), ak_natn, ak_natn, z2, ak_wj (show i < 1000000 by omega)]
      refine ⟨by omega, am_s117 (d := d) (first := 4 * i) (Or.inr ⟨by omega, by omega⟩) z1 (by omega) gn (by omega) ho (fun h3 g3 gn3 f3 => ⟨by omega, by omega, by omega, by omega, ?_⟩)⟩
      have n1 : h3.1 47 (6 * i + 1) = ((E i).length : Int) := (f3.1 _ _ (by omega) (by omega) (by omega)).trans z2
      have n4 : h3.1 47 (6 * i + 4) = V i := (f3.1 _ _ (by omega) (by omega) (by omega)).trans z3
      rw [n1, n4, show am_w32 (((E i).length : Int) - (((E i).filter (ak_kp R o)).length : Int)) = ((E i).length : Int) - (((E i).filter (ak_kp R o)).length : Int) from ak_w _ (by omega)]
      have F : ∀ q k, ¬ (q = 47 ∧ (k = 6 * i + 1 ∨ k = 6 * i + 4)) → am_up (am_up h3.1 47 (6 * i + 4) (am_w32 (V i + (((E i).length : Int) - (((E i).filter (ak_kp R o)).length : Int))))) 47 (6 * i + 1) (((E i).filter (ak_kp R o)).length : Int) q k = h3.1 q k := fun q k a => (ak_up_out (by omega)).trans (ak_up_out (by omega))
      have F1 : am_up (am_up h3.1 47 (6 * i + 4) (am_w32 (V i + (((E i).length : Int) - (((E i).filter (ak_kp R o)).length : Int))))) 47 (6 * i + 1) (((E i).filter (ak_kp R o)).length : Int) 47 (6 * i + 1) = (((E i).filter (ak_kp R o)).length : Int) := by simp [am_up]
      have F4 : am_up (am_up h3.1 47 (6 * i + 4) (am_w32 (V i + (((E i).length : Int) - (((E i).filter (ak_kp R o)).length : Int))))) 47 (6 * i + 1) (((E i).filter (ak_kp R o)).length : Int) 47 (6 * i + 4) = am_w32 (V i + (((E i).length : Int) - (((E i).filter (ak_kp R o)).length : Int))) := by simp [am_up]
      clear n1 n4
      refine ih (i + 1) (am_up (am_up h3.1 47 (6 * i + 4) (am_w32 (V i + (((E i).length : Int) - (((E i).filter (ak_kp R o)).length : Int))))) 47 (6 * i + 1) (((E i).filter (ak_kp R o)).length : Int), h3.2) (by omega) (fun j hj => ?_) (ak_gC_fr bt (fun k a b => (F 45 k (by omega)).trans (f3.1 45 k (by omega) (by omega) (by omega))) (fun k a b => f3.2.1 46 k (by omega))) ((F _ _ (by omega)).trans ((f3.1 _ _ (by omega) (by omega) (by omega)).trans b4)) (ak_gnC_fr gn3 (fun q k hq => F q k (by omega))) ⟨fun q k a b c d' => (F q k (by omega)).trans ((f3.1 q k (by omega) c (by omega)).trans (f.1 q k a b c d')), fun q k a => (f3.2.1 q k (by omega)).trans (f.2.1 q k a), f3.2.2.trans f.2.2⟩
      by_cases hji : j = i
      · subst hji
        have eE2 : ak_Ec R o E (j + 1) j = (E j).filter (ak_kp R o) := if_pos (Nat.lt_succ_self _)
        have eV2 : ak_Vc R o E V (j + 1) j = am_w32 (V j + (((E j).length : Int) - (((E j).filter (ak_kp R o)).length : Int))) := if_pos (Nat.lt_succ_self _)
        rw [eE2, eV2]
        exact ⟨ak_gC_fr g3 (fun k a b => F 45 k (by omega)) (fun k a b => rfl), F1, F4⟩
      · have eE2 : ak_Ec R o E (i + 1) j = ak_Ec R o E i j := by
          unfold ak_Ec
          by_cases hlt : j < i
          · rw [if_pos hlt, if_pos (by omega)]
          · rw [if_neg hlt, if_neg (by omega)]
        have eV2 : ak_Vc R o E V (i + 1) j = ak_Vc R o E V i j := by
          unfold ak_Vc
          by_cases hlt : j < i
          · rw [if_pos hlt, if_pos (by omega)]
          · rw [if_neg hlt, if_neg (by omega)]
        rw [eE2, eV2]
        obtain ⟨x1, x2, x3⟩ := bs j hj
        have hl : (ak_Ec R o E i j).length ≤ 4 := by
          have h4 := (B j hj).1
          have h5 := List.length_filter_le (ak_kp R o) (E j)
          unfold ak_Ec
          split <;> omega
        exact ⟨ak_gC_fr x1 (fun k a b => (F 45 k (by omega)).trans (f3.1 45 k (by omega) (by omega) (by omega))) (fun k a b => f3.2.1 46 k (by omega)), (F _ _ (by omega)).trans ((f3.1 _ _ (by omega) (by omega) (by omega)).trans x2), (F _ _ (by omega)).trans ((f3.1 _ _ (by omega) (by omega) (by omega)).trans x3)⟩
  refine ak_MV_of (Nat.le_of_ble_eq_true rfl) (am_k116_0 ?_)
  have F : ∀ q k, ¬ (q = 44 ∧ k = 5) → am_up h.1 44 5 0 q k = h.1 q k := fun q k a => ak_up_out a
  refine lp 150 0 (am_up h.1 44 5 0, h.2) (by omega) (fun j hj => ?_) (ak_gC_fr Bt.2.1 (fun k a b => F 45 k (by omega)) (fun k a b => rfl)) ((F _ _ (by omega)).trans Bt.2.2) ⟨ak_up_at1, fun j g hg => by simp [ak_gl] at hg⟩ ⟨fun q k a b c d' => F q k (by omega), fun _ _ _ => rfl, rfl⟩
  obtain ⟨y1, y2, y3, y4⟩ := B j hj
  exact ⟨ak_gC_fr y2 (fun k a b => F 45 k (by omega)) (fun k a b => rfl), (F _ _ (by omega)).trans y3, (F _ _ (by omega)).trans y4⟩
end VOID
