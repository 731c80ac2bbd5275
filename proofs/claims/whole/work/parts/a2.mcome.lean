/-! the other lets an item come -/
/-- what a change of an object changes of the other, but for the table and the sites -/
def ak_fB (o : Nat) (h h' : ak_S) : Prop := (∀ q k, ¬ (q = 110 ∧ k = 67) → ¬ ((q = 141 ∨ q = 142) ∧ k = o) → ¬ (143 ≤ q ∧ q ≤ 145 ∧ 12 * o ≤ k ∧ k < 12 * o + 12) → h'.1 q k = h.1 q k) ∧ (∀ q k, ¬ (q = 146 ∧ 12 * o ≤ k ∧ k < 12 * o + 12) → h'.2.1 q k = h.2.1 q k) ∧ h'.2.2 = h.2.2
/-- the item x stands in the object o at place n, with what it holds -/
def ak_cmM (h : ak_S) (o n : Nat) (x : Int × Int) (sv wv : Int) (t : Nat) : ak_S := (am_up (am_up (am_up (am_up (am_up (am_up h.1 143 (12 * o + n) x.1) 144 (12 * o + n) x.2) 145 (12 * o + n) sv) 141 o ((n + 1 : Nat) : Int)) 142 o (t : Int)) 110 67 (-1), am_up h.2.1 146 (12 * o + n) wv, h.2.2)
section MCOME
variable {e : ak_X3} {d S O o s j0 : Nat} {ρ : List Nat} {T : Nat → List (Int × Int)} {h h' h2 : ak_S} {X : Nat → ak_S → Prop} {kd wt : Int} {l : List (Int × Int)}
theorem ak_fB_refl : ak_fB o h h := ⟨fun _ _ _ _ _ => rfl, fun _ _ _ => rfl, rfl⟩
theorem ak_fB_trans (w : ak_fB o h h') (w2 : ak_fB o h' h2) : ak_fB o h h2 := ⟨fun q k a b c => (w2.1 q k a b c).trans (w.1 q k a b c), fun q k a => (w2.2.1 q k a).trans (w.2.1 q k a), w2.2.2.trans w.2.2⟩
theorem ak_cmM_fB {n t : Nat} {x : Int × Int} {sv wv : Int} (hn : n < 12) : ak_fB o h (ak_cmM h o n x sv wv t) := by
  refine ⟨fun q k a b c => ?_, fun q k b => ?_, rfl⟩
  · show am_up (am_up (am_up (am_up (am_up (am_up h.1 143 (12 * o + n) x.1) 144 (12 * o + n) x.2) 145 (12 * o + n) sv) 141 o ((n + 1 : Nat) : Int)) 142 o (t : Int)) 110 67 (-1) q k = _
    rw [ak_up_out (by omega), ak_up_out (by omega), ak_up_out (by omega), ak_up_out (by omega), ak_up_out (by omega), ak_up_out (by omega)]
  · show am_up h.2.1 146 (12 * o + n) wv q k = _
    exact ak_up_out (by omega)
theorem ak_bf_add {x : Int × Int} (B : ak_bf l h) : ak_bf (l ++ [x]) (am_up (am_up (am_up h.1 152 l.length x.1) 153 l.length x.2) 110 62 ((l.length + 1 : Nat) : Int), h.2) ∧ ak_wF h (am_up (am_up (am_up h.1 152 l.length x.1) 153 l.length x.2) 110 62 ((l.length + 1 : Nat) : Int), h.2) := by
  refine ⟨⟨?_, fun k y hy => ?_⟩, ⟨fun q k a b => ?_, rfl⟩⟩
  · refine ak_up_at1.trans ?_
    rw [List.length_append]; rfl
  · have hk := ak_get_none hy
    rw [List.length_append] at hk
    simp at hk
    show am_up (am_up (am_up h.1 152 l.length x.1) 153 l.length x.2) 110 62 ((l.length + 1 : Nat) : Int) 152 k = _ ∧ am_up (am_up (am_up h.1 152 l.length x.1) 153 l.length x.2) 110 62 ((l.length + 1 : Nat) : Int) 153 k = _
    by_cases hkl : k = l.length
    · subst hkl
      rw [ak_get_snoc] at hy
      cases hy
      constructor
      · simp [am_up]
      · simp [am_up]
    · rw [ak_get_snoc_lt (by omega)] at hy
      rw [ak_up_out (by omega), ak_up_out (by omega), ak_up_out (by omega), ak_up_out (by omega), ak_up_out (by omega), ak_up_out (by omega)]
      exact B.2 k y hy
  · show am_up (am_up (am_up h.1 152 l.length x.1) 153 l.length x.2) 110 62 ((l.length + 1 : Nat) : Int) q k = _
    rw [ak_up_out (by omega), ak_up_out (by omega), ak_up_out (by omega)]
theorem am_s243 {Q : Int → ak_S → Prop} {sv wv : Int} (W : ak_Tok S T O) (M : ak_tM S T h) (ho : o < 200) (hs : s < S) (B : ak_ob (T s) o h) (u : ak_upto S j0 1 T (ak_Pc (T s) (kd, wt)))
    (q8 : (T s).length = 12 ∨ 400 < S + (1 - j0) → ∀ h', ak_wF h h' → Q 0 h')
    (q1 : (T s).length < 12 → S + (1 - j0) ≤ 400 → ∀ t h1, t < S + (1 - j0) → ak_Tg S j0 T (ak_Pc (T s) (kd, wt)) t = T s ++ [(kd, wt)] → ak_tM (S + (1 - j0)) (ak_Tg S j0 T (ak_Pc (T s) (kd, wt))) h1 → ak_wM h h1 →
      ak_MV e 1 (d + 6) ρ 256 [am_r 110, am_i (o : Int)] h1 (fun h3 => h3.1 141 o = ((T s).length : Int) ∧ Q 1 (ak_cmM h3 o (T s).length (kd, wt) sv wv t)) (fun _ _ => False)) :
    ak_MI e 1 (d + 7) ρ 243 [am_r 110, am_i (o : Int), am_i kd, am_i wt, am_i sv, am_l wv] h Q X := by
  have hS := W.1.2.1
  have hn2 := (W.2.1 s hs).1
  have hT : ∀ s, s < S → (T s).length ≤ 12 := fun s hs => (W.2.1 s hs).1
  refine ak_MI_of (Nat.le_of_ble_eq_true rfl) (am_k243_0 ?_)
  rw [ak_natn, B.1]
  refine ⟨by omega, fun hl => ⟨by omega, ?_⟩, fun hl => ⟨Or.inl rfl, q8 (Or.inl (by omega)) h ak_wF_refl⟩⟩
  have hl' : (T s).length < 12 := by omega
  refine am_s241 (d := d + 4) B ho hn2 (Nat.le_refl _) (fun h1 b1 f1 => ?_)
  rw [List.take_length] at b1
  rw [b1.1, ak_natn, ak_wj (show (T s).length < 1000000 by omega)]
  obtain ⟨b2, f2⟩ := ak_bf_add (x := (kd, wt)) b1
  refine ⟨by omega, by omega, ?_⟩
  show ak_MI e 1 (d + 6) ρ 239 [am_r 110] (am_up (am_up (am_up h1.1 152 (T s).length (kd, wt).1) 153 (T s).length (kd, wt).2) 110 62 (((T s).length + 1 : Nat) : Int), h1.2) _ _
  generalize (am_up (am_up (am_up h1.1 152 (T s).length (kd, wt).1) 153 (T s).length (kd, wt).2) 110 62 (((T s).length + 1 : Nat) : Int), h1.2) = h2 at b2 f2 ⊢
  have f3 := ak_wF_trans f1 f2
  have M2 := ak_tM_B M f3
  have ll : (T s ++ [(kd, wt)]).length ≤ 12 := by rw [List.length_append]; simp; omega
  have fin : ∀ (t : Nat) (h4 : ak_S), S + (1 - j0) ≤ 400 → t < S + (1 - j0) → ak_Tg S j0 T (ak_Pc (T s) (kd, wt)) t = T s ++ [(kd, wt)] → ak_tM (S + (1 - j0)) (ak_Tg S j0 T (ak_Pc (T s) (kd, wt))) h4 → ak_wM h h4 →
      ak_MV e 1 (d + 6) ρ 256 [am_r 110, am_i (o : Int)] h4 (fun h3 =>
      (0 ≤ (o : Int) ∧ (o : Int) < (200 : Int)) ∧ (0 ≤ am_w32 ((am_w32 (12 * (o : Int))) + (h3.1 141 (o : Int).toNat)) ∧ am_w32 ((am_w32 (12 * (o : Int))) + (h3.1 141 (o : Int).toNat)) < (2400 : Int)) ∧ (0 ≤ am_w32 ((am_w32 (12 * (o : Int))) + (h3.1 141 (o : Int).toNat)) ∧ am_w32 ((am_w32 (12 * (o : Int))) + (h3.1 141 (o : Int).toNat)) < (2400 : Int)) ∧ (0 ≤ am_w32 ((am_w32 (12 * (o : Int))) + (h3.1 141 (o : Int).toNat)) ∧ am_w32 ((am_w32 (12 * (o : Int))) + (h3.1 141 (o : Int).toNat)) < (2400 : Int)) ∧ (0 ≤ am_w32 ((am_w32 (12 * (o : Int))) + (h3.1 141 (o : Int).toNat)) ∧ am_w32 ((am_w32 (12 * (o : Int))) + (h3.1 141 (o : Int).toNat)) < (2400 : Int)) ∧ (0 ≤ (o : Int) ∧ (o : Int) < (200 : Int)) ∧ (0 ≤ (o : Int) ∧ (o : Int) < (200 : Int)) ∧ (0 ≤ (o : Int) ∧ (o : Int) < (200 : Int)) ∧ ((1 : Int) = 0 ∨ (1 : Int) = 1) ∧ Q 1 ((am_up (am_up (am_up (am_up (am_up (am_up h3.1 143 (am_w32 ((am_w32 (12 * (o : Int))) + (h3.1 141 (o : Int).toNat))).toNat kd) 144 (am_w32 ((am_w32 (12 * (o : Int))) + (h3.1 141 (o : Int).toNat))).toNat wt) 145 (am_w32 ((am_w32 (12 * (o : Int))) + (h3.1 141 (o : Int).toNat))).toNat sv) 141 (o : Int).toNat (am_w32 ((h3.1 141 (o : Int).toNat) + 1))) 142 (o : Int).toNat (t : Int)) 110 67 ((-1))), (am_up h3.2.1 146 (am_w32 ((am_w32 (12 * (o : Int))) + (h3.1 141 (o : Int).toNat))).toNat wv), h3.2.2)) (fun _ _ => False) := by
    intro t h4 g1 g2 g3 g4 g5
    refine ak_MV_imp (q1 hl' g1 t h4 g2 g3 g4 g5) (fun h3 q => ?_) (fun _ _ q => q)
    obtain ⟨q2, q3⟩ := q
    rw [ak_natn, q2, ak_w12m (show 12 * o + (T s).length < 1000000 by omega), ak_natn, ak_wj (show (T s).length < 1000000 by omega)]
    exact ⟨by omega, by omega, by omega, by omega, by omega, by omega, by omega, by omega, Or.inr rfl, q3⟩
  refine am_s239 (d := d + 5) M2 hS hT b2 ll (fun t ht et => ⟨fun _ => ?_, fun g => by omega⟩) (fun no => ⟨fun g => absurd g (by decide), fun _ => ?_⟩)
  · have j1 : j0 = 1 := by
      by_cases h : j0 = 1
      · exact h
      · have := u.1
        exact absurd (et.trans ak_Pc_1.symm) (u.2.2 1 (by omega) (Nat.le_refl _) t ht)
    subst j1
    refine am_k243_73 (am_s240 (d := d + 4) M2 hS hT b2 ll (fun t' ht' et' => ?_) (fun no => absurd et (no t ht)))
    exact fin t' h2 (by omega) (by omega) (by rw [ak_Tg_lt ht']; exact et') (ak_tM_congr M2 (fun s hs => (ak_Tg_lt hs).symm)) (ak_wF_M f3)
  · have j1 : j0 = 0 := by
      by_cases h : j0 = 0
      · exact h
      · have := u.1
        obtain ⟨t, ht, et⟩ := u.2.1 1 (by omega)
        exact absurd (et.trans ak_Pc_1) (no t ht)
    subst j1
    rw [M2.1]
    refine ⟨fun hS2 => ?_, fun hS2 => ⟨Or.inl rfl, q8 (Or.inr (by omega)) h2 f3⟩⟩
    refine am_k243_73 (am_s240 (d := d + 4) M2 hS hT b2 ll (fun t' ht' et' => absurd et' (no t' ht')) (fun _ => ⟨by omega, fun h4 m4 _ f4 => ?_⟩))
    refine fin S h4 (by omega) (by omega) ((ak_Tg_at (i := 0)).trans ak_Pc_1) (ak_tM_congr m4 (fun s' hs' => ?_)) (ak_wM_trans (ak_wF_M f3) f4)
    by_cases h : s' = S
    · subst h
      rw [ak_Ta_eq]
      exact ((ak_Tg_at (i := 0)).trans ak_Pc_1).symm
    · rw [ak_Ta_lt (by omega), ak_Tg_lt (by omega)]
end MCOME
