/-! the other lets an item go -/
section MGO
variable {e : ak_X3} {d S O o s j0 a : Nat} {ρ : List Nat} {T : Nat → List (Int × Int)} {h h' h2 : ak_S} {X : Nat → ak_S → Prop}
/-- the items of the object o from a on moved down by one -/
def ak_goM (h : ak_S) (o n a t : Nat) (h' : ak_S) : Prop := h'.1 141 o = ((n - 1 : Nat) : Int) ∧ h'.1 142 o = (t : Int) ∧ h'.1 110 67 = -1 ∧ (∀ k q, k < a → 143 ≤ q → q ≤ 145 → h'.1 q (12 * o + k) = h.1 q (12 * o + k)) ∧ (∀ k, k < a → h'.2.1 146 (12 * o + k) = h.2.1 146 (12 * o + k)) ∧
  (∀ k q, a ≤ k → k + 1 < n → 143 ≤ q → q ≤ 145 → h'.1 q (12 * o + k) = h.1 q (12 * o + (k + 1))) ∧ (∀ k, a ≤ k → k + 1 < n → h'.2.1 146 (12 * o + k) = h.2.1 146 (12 * o + (k + 1))) ∧ ak_fB o h h'
theorem am_s244 {Q : Int → ak_S → Prop} (W : ak_Tok S T O) (M : ak_tM S T h) (ho : o < 200) (hs : s < S) (B : ak_ob (T s) o h) (ha : a < (T s).length) (u : ak_upto S j0 ((T s).length - a - 1) T (ak_Pg (T s) a))
    (q8 : 400 < S + ((T s).length - a - 1 - j0) → ∀ h', ak_wF h h' → Q 0 h')
    (q1 : S + ((T s).length - a - 1 - j0) ≤ 400 → ∀ t h1, t < S + ((T s).length - a - 1 - j0) → ak_Tg S j0 T (ak_Pg (T s) a) t = ak_Pg (T s) a ((T s).length - a - 1) → ak_tM (S + ((T s).length - a - 1 - j0)) (ak_Tg S j0 T (ak_Pg (T s) a)) h1 → ak_wM h h1 →
      ak_MV e 1 (d + 6) ρ 256 [am_r 110, am_i (o : Int)] h1 (fun h3 => h3.1 141 o = ((T s).length : Int) ∧ ∀ h4, ak_goM h3 o (T s).length a t h4 → Q 1 h4) (fun _ _ => False)) :
    ak_MI e 1 (d + 7) ρ 244 [am_r 110, am_i (o : Int), am_i ((12 * o + a : Nat) : Int)] h Q X := by
  have hS := W.1.2.1
  have hn2 := (W.2.1 s hs).1
  have hT : ∀ s, s < S → (T s).length ≤ 12 := fun s hs => (W.2.1 s hs).1
  have ch := ak_Pg_ch (O := O) ha hn2 (W.2.1 s hs).2
  have P0 : ak_Pg (T s) a 0 = (T s).take a := by unfold ak_Pg; simp
  generalize hm : (T s).length - a - 1 = m at *
  have uu := u.1
  -- the items move down
  have shift : ∀ (c k t : Nat) (h3 h4 : ak_S), k + c + 1 = (T s).length → a ≤ k → h3.1 141 o = ((T s).length : Int) → (∀ h', ak_goM h3 o (T s).length a t h' → Q 1 h') → ak_fB o h3 h4 → h4.1 141 o = ((T s).length : Int) →
      (∀ i q, i < a → 143 ≤ q → q ≤ 145 → h4.1 q (12 * o + i) = h3.1 q (12 * o + i)) → (∀ i, i < a → h4.2.1 146 (12 * o + i) = h3.2.1 146 (12 * o + i)) →
      (∀ i q, a ≤ i → i < k → 143 ≤ q → q ≤ 145 → h4.1 q (12 * o + i) = h3.1 q (12 * o + (i + 1))) → (∀ i, a ≤ i → i < k → h4.2.1 146 (12 * o + i) = h3.2.1 146 (12 * o + (i + 1))) →
      (∀ i q, k ≤ i → 143 ≤ q → q ≤ 145 → h4.1 q (12 * o + i) = h3.1 q (12 * o + i)) → (∀ i, k ≤ i → h4.2.1 146 (12 * o + i) = h3.2.1 146 (12 * o + i)) →
      ak_W0 e 1 (d + 6) 244 ρ 132 [some (am_r 110), some (am_i (o : Int)), none, none, none, some (am_i (t : Int)), some (am_i ((12 * o + k : Nat) : Int))] [] h4 (ak_qi Q X) := by
    intro c
    induction c with
    | zero =>
      intro k t h3 h4 hk hak n3 q f n4 v1 w1 v2 w2 v3 w3
      refine am_k244_132 ⟨by omega, fun _ => ?_, fun g => ?_⟩
      · rw [ak_natn, n4, show am_w32 (((T s).length : Int) - 1) = (((T s).length - 1 : Nat) : Int) from by rw [ak_w _ (by omega)]; omega]
        have G : ∀ q k, ¬ (q = 141 ∧ k = o) → ¬ (q = 142 ∧ k = o) → ¬ (q = 110 ∧ k = 67) → am_up (am_up (am_up h4.1 141 o (((T s).length - 1 : Nat) : Int)) 142 o (t : Int)) 110 67 (-1) q k = h4.1 q k := fun q k a b c => (ak_up_out c).trans ((ak_up_out b).trans (ak_up_out a))
        refine ⟨by omega, by omega, by omega, Or.inr rfl, q _ ⟨?_, ?_, ?_, fun i q hi k1 k2 => (G q _ (by omega) (by omega) (by omega)).trans (v1 i q hi k1 k2), w1, fun i q k0 k3 k1 k2 => (G q _ (by omega) (by omega) (by omega)).trans (v2 i q k0 (by omega) k1 k2), fun i k0 k3 => w2 i k0 (by omega), ⟨fun q k k1 k2 k3 => (G q k (by omega) (by omega) (by omega)).trans (f.1 q k k1 k2 k3), f.2.1, f.2.2⟩⟩⟩
        · simp [am_up]
        · simp [am_up]
        · exact ak_up_at1
      · rw [ak_natn, n4, ak_w12m (show 12 * o + (T s).length < 1000000 by omega), ak_w _ (by omega)] at g
        omega
    | succ c ih =>
      intro k t h3 h4 hk hak n3 q f n4 v1 w1 v2 w2 v3 w3
      refine am_k244_132 ⟨by omega, fun g => ?_, fun _ => ?_⟩
      · rw [ak_natn, n4, ak_w12m (show 12 * o + (T s).length < 1000000 by omega), ak_w _ (by omega)] at g
        omega
      · rw [ak_wj (show 12 * o + k < 1000000 by omega), ak_natn, ak_natn]
        have G : ∀ q j, ¬ (143 ≤ q ∧ q ≤ 145 ∧ j = 12 * o + k) → am_up (am_up (am_up h4.1 143 (12 * o + k) (h4.1 143 (12 * o + k + 1))) 144 (12 * o + k) (h4.1 144 (12 * o + k + 1))) 145 (12 * o + k) (h4.1 145 (12 * o + k + 1)) q j = h4.1 q j := fun q j a => (ak_up_out (by omega)).trans ((ak_up_out (by omega)).trans (ak_up_out (by omega)))
        have G2 : ∀ q, 143 ≤ q → q ≤ 145 → am_up (am_up (am_up h4.1 143 (12 * o + k) (h4.1 143 (12 * o + k + 1))) 144 (12 * o + k) (h4.1 144 (12 * o + k + 1))) 145 (12 * o + k) (h4.1 145 (12 * o + k + 1)) q (12 * o + k) = h4.1 q (12 * o + (k + 1)) := by
          intro q k1 k2
          have : q = 143 ∨ q = 144 ∨ q = 145 := by omega
          rcases this with rfl | rfl | rfl
          · simp [am_up]; rfl
          · simp [am_up]; rfl
          · simp [am_up]; rfl
        have G3 : ∀ q j, ¬ (q = 146 ∧ j = 12 * o + k) → am_up h4.2.1 146 (12 * o + k) (h4.2.1 146 (12 * o + k + 1)) q j = h4.2.1 q j := fun q j a => ak_up_out a
        have G4 : am_up h4.2.1 146 (12 * o + k) (h4.2.1 146 (12 * o + k + 1)) 146 (12 * o + k) = h4.2.1 146 (12 * o + (k + 1)) := by simp [am_up]; rfl
        refine ⟨by omega, by omega, by omega, by omega, by omega, by omega, by omega, by omega, ih (k + 1) t h3 (am_up (am_up (am_up h4.1 143 (12 * o + k) (h4.1 143 (12 * o + k + 1))) 144 (12 * o + k) (h4.1 144 (12 * o + k + 1))) 145 (12 * o + k) (h4.1 145 (12 * o + k + 1)), am_up h4.2.1 146 (12 * o + k) (h4.2.1 146 (12 * o + k + 1)), h4.2.2) (by omega) (by omega) n3 q ⟨fun q j k1 k2 k3 => (G q j (by omega)).trans (f.1 q j k1 k2 k3), fun q j k1 => (G3 q j (by omega)).trans (f.2.1 q j k1), f.2.2⟩ ((G 141 o (by omega)).trans n4)
          (fun i q hi k1 k2 => (G q (12 * o + i) (by omega)).trans (v1 i q hi k1 k2)) (fun i hi => (G3 146 (12 * o + i) (by omega)).trans (w1 i hi)) (fun i q k0 k3 k1 k2 => ?_) (fun i k0 k3 => ?_) (fun i q k0 k1 k2 => (G q (12 * o + i) (by omega)).trans (v3 i q (by omega) k1 k2)) (fun i k0 => (G3 146 (12 * o + i) (by omega)).trans (w3 i (by omega)))⟩
        · by_cases hik : i = k
          · subst hik
            exact (G2 q k1 k2).trans (v3 (i + 1) q (by omega) k1 k2)
          · exact (G q (12 * o + i) (by omega)).trans (v2 i q k0 (by omega) k1 k2)
        · by_cases hik : i = k
          · subst hik
            exact G4.trans (w3 (i + 1) (by omega))
          · exact (G3 146 (12 * o + i) (by omega)).trans (w2 i k0 (by omega))
  have min0 : ∀ i, i - min i j0 = i - j0 := by intro i; omega
  -- the shapes that are missing are made
  have make : ∀ (c i t : Nat) (h1 : ak_S), i + c = m → S + (m - j0) ≤ 400 → t < S + (i - j0) → ak_Tg S j0 T (ak_Pg (T s) a) t = ak_Pg (T s) a i → ak_tM (S + (i - j0)) (ak_Tg S j0 T (ak_Pg (T s) a)) h1 → ak_bf (ak_Pg (T s) a i) h1 → ak_wM h h1 →
      ak_W0 e 1 (d + 6) 244 ρ 94 [some (am_r 110), some (am_i (o : Int)), some (am_i ((12 * o + a : Nat) : Int)), none, none, some (am_i (t : Int)), some (am_i ((a + 1 + i : Nat) : Int))] [] h1 (ak_qi Q X) := by
    intro c
    induction c with
    | zero =>
      intro i t h1 hi g1 ht et m1 b1 f
      have : i = m := by omega
      subst this
      have n1 : h1.1 141 o = ((T s).length : Int) := (f.1 _ _ (by omega) (by omega) (by omega)).trans B.1
      refine am_k244_94 ⟨by omega, fun _ => ak_MV_imp (q1 g1 t h1 ht et m1 f) (fun h3 q => ?_) (fun _ _ q => q), fun g => ?_⟩
      · exact shift i a t h3 h3 (by omega) (Nat.le_refl _) q.1 q.2 ak_fB_refl q.1 (fun _ _ _ _ _ => rfl) (fun _ _ => rfl) (fun i q k1 k2 => by omega) (fun i k1 k2 => by omega) (fun _ _ _ _ _ => rfl) (fun _ _ => rfl)
      · rw [ak_natn, n1] at g; omega
    | succ c ih =>
      intro i t h1 hi g1 ht et m1 b1 f
      have n1 : h1.1 141 o = ((T s).length : Int) := (f.1 _ _ (by omega) (by omega) (by omega)).trans B.1
      have hx := List.getElem?_eq_getElem (show a + 1 + i < (T s).length by omega)
      have psu := ak_Pg_succ hx
      refine am_k244_94 ⟨by omega, fun g => ?_, fun _ => ?_⟩
      · rw [ak_natn, n1] at g; omega
      · refine am_s242 (d := d + 5) b1 (ak_ob_M B f) ho hx (by omega) (by rw [ak_Pg_len ha (by omega)]; omega) (fun h2 b2 f2 => ?_)
        rw [← psu] at b2
        have m2 := ak_tM_B m1 f2
        have WT : ∀ s', s' < S + (i - j0) → (ak_Tg S j0 T (ak_Pg (T s) a) s').length ≤ 12 := by
          intro s' hs'
          by_cases hj : i ≤ j0
          · rw [ak_Tg_lt (by omega)]; exact hT s' (by omega)
          · exact ((ak_Tg_Tok W ch u (i - j0) (by omega) (by omega)).2.1 s' hs').1
        have f3 := ak_wM_trans f (ak_wF_M f2)
        refine am_s240 (d := d + 4) m2 (by omega) WT b2 (by rw [ak_Pg_len ha (by omega)]; omega) (fun t' ht' et' => ?_) (fun no => ?_)
        · rw [ak_wj (show a + 1 + i < 1000000 by omega)]
          have hj : i + 1 ≤ j0 := by
            rcases Nat.lt_or_ge j0 (i + 1) with hj | hj
            · have := ak_Tgi_no ch u (i := i - j0) (by omega) t' ht'
              rw [show j0 + (i - j0) + 1 = i + 1 by omega] at this
              exact absurd et' this
            · exact hj
          have e1 : i + 1 - j0 = i - j0 := by omega
          exact ih (i + 1) t' h2 (by omega) g1 (by rw [e1]; exact ht') et' (by rw [e1]; exact m2) b2 f3
        · have hj : j0 ≤ i := by
            rcases Nat.lt_or_ge i j0 with hj | hj
            · obtain ⟨t', ht', et'⟩ := u.2.1 (i + 1) (by omega)
              exact absurd ((ak_Tg_lt ht').trans et') (no t' (by omega))
            · exact hj
          refine ⟨by omega, fun h4 m4 b4 f4 => ?_⟩
          rw [ak_wj (show a + 1 + i < 1000000 by omega)]
          refine ih (i + 1) (S + (i - j0)) h4 (by omega) g1 (by omega) ?_ ?_ b4 (ak_wM_trans f3 f4)
          · rw [ak_Tg_at, show j0 + 1 + (i - j0) = i + 1 by omega]
          · rw [show S + (i + 1 - j0) = S + (i - j0) + 1 by omega]
            refine ak_tM_congr m4 (fun s' hs' => ?_)
            have := ak_Tg_Ta (S := S) (j0 := j0) (T := T) (P := ak_Pg (T s) a) (i := i - j0) s' hs'
            rw [show j0 + 1 + (i - j0) = i + 1 by omega] at this
            exact this
  -- how many are missing
  have count : ∀ (c i : Nat) (h1 : ak_S), i + c = m → ak_bf (ak_Pg (T s) a i) h1 → ak_wF h h1 →
      ak_W0 e 1 (d + 6) 244 ρ 21 [some (am_r 110), some (am_i (o : Int)), some (am_i ((12 * o + a : Nat) : Int)), some (am_i (a : Int)), some (am_i ((i - j0 : Nat) : Int)), some (am_i ((a + 1 + i : Nat) : Int)), none] [] h1 (ak_qi Q X) := by
    intro c
    induction c with
    | zero =>
      intro i h1 hi b1 f
      have : i = m := by omega
      subst this
      have n1 : h1.1 141 o = ((T s).length : Int) := (f.1 _ _ (by omega) (by omega)).trans B.1
      have m1 := ak_tM_B M f
      refine am_k244_21 ⟨by omega, fun _ => ?_, fun g => ?_⟩
      · rw [m1.1, ak_w _ (by omega)]
        refine ⟨fun g => am_s241 (d := d + 4) (ak_ob_M B (ak_wF_M f)) ho hn2 (by omega) (fun h2 b2 f2 => ?_), fun g => ⟨Or.inl rfl, q8 (by omega) h1 f⟩⟩
        have m2 := ak_tM_B m1 f2
        rw [← P0] at b2
        have f3 := ak_wF_trans f f2
        obtain ⟨t0, ht0, et0⟩ := u.2.1 0 (Nat.zero_le _)
        refine am_s240 (d := d + 4) m2 hS hT b2 (by rw [ak_Pg_len ha (by omega)]; omega) (fun t' ht' et' => ?_) (fun no => absurd et0 (no t0 ht0))
        rw [ak_wj (show a < 1000000 by omega)]
        have e0 : 0 - j0 = 0 := by omega
        exact make i 0 t' h2 (by omega) (by omega) (by omega) (by rw [ak_Tg_lt ht']; exact et') (by rw [e0]; exact ak_tM_congr m2 (fun s hs => (ak_Tg_lt hs).symm)) b2 (ak_wF_M f3)
      · rw [ak_natn, n1] at g; omega
    | succ c ih =>
      intro i h1 hi b1 f
      have n1 : h1.1 141 o = ((T s).length : Int) := (f.1 _ _ (by omega) (by omega)).trans B.1
      have hx := List.getElem?_eq_getElem (show a + 1 + i < (T s).length by omega)
      have psu := ak_Pg_succ hx
      refine am_k244_21 ⟨by omega, fun g => ?_, fun _ => ?_⟩
      · rw [ak_natn, n1] at g; omega
      · refine am_s242 (d := d + 5) b1 (ak_ob_M B (ak_wF_M f)) ho hx (by omega) (by rw [ak_Pg_len ha (by omega)]; omega) (fun h2 b2 f2 => ?_)
        rw [← psu] at b2
        have f3 := ak_wF_trans f f2
        have m2 := ak_tM_B M f3
        rw [ak_wj (show a + 1 + i < 1000000 by omega)]
        refine am_s239 (d := d + 5) m2 hS hT b2 (by rw [ak_Pg_len ha (by omega)]; omega) (fun t' ht' et' => ⟨fun _ => ?_, fun g => by omega⟩) (fun no => ⟨fun g => absurd g (by decide), fun _ => ?_⟩)
        · have hj : i + 1 ≤ j0 := by
            rcases Nat.lt_or_ge j0 (i + 1) with hj | hj
            · exact absurd et' (u.2.2 (i + 1) hj (by omega) t' ht')
            · exact hj
          rw [show am_w32 (((i - j0 : Nat) : Int) + 0) = ((i + 1 - j0 : Nat) : Int) from by rw [ak_w _ (by omega)]; omega]
          exact ih (i + 1) h2 (by omega) b2 f3
        · have hj : j0 ≤ i := by
            rcases Nat.lt_or_ge i j0 with hj | hj
            · obtain ⟨t', ht', et'⟩ := u.2.1 (i + 1) (by omega)
              exact absurd et' (no t' ht')
            · exact hj
          rw [show am_w32 (((i - j0 : Nat) : Int) + 1) = ((i + 1 - j0 : Nat) : Int) from by rw [ak_w _ (by omega)]; omega]
          exact ih (i + 1) h2 (by omega) b2 f3
  refine ak_MI_of (Nat.le_of_ble_eq_true rfl) (am_k244_0 ?_)
  rw [show am_w32 (((12 * o + a : Nat) : Int) - am_w32 (12 * (o : Int))) = (a : Int) from by rw [ak_w (12 * (o : Int)) (by omega), ak_w _ (by omega)]; omega]
  refine am_s241 (d := d + 4) B ho hn2 (by omega) (fun h1 b1 f1 => ?_)
  rw [ak_wj (show a < 1000000 by omega)]
  rw [← P0] at b1
  have := count m 0 h1 (by omega) b1 f1
  rw [show 0 - j0 = 0 by omega] at this
  exact this
end MGO
