/-! the one lets an item come and go -/
def ak_Pc (l : List (Int × Int)) (x : Int × Int) (j : Nat) : List (Int × Int) := l ++ [x].take j
theorem ak_Pc_ch {l : List (Int × Int)} {x : Int × Int} {O : Nat} (hl : l.length < 12) (hx : ak_it O x) : ak_ch O 1 (ak_Pc l x) := by
  refine ⟨fun j hj => ⟨x, hx, ?_⟩, ?_⟩
  · rw [show j = 0 by omega]
    unfold ak_Pc
    simp
  · unfold ak_Pc
    simp
    omega
theorem ak_Pc_0 {l : List (Int × Int)} {x : Int × Int} : ak_Pc l x 0 = l := by unfold ak_Pc; simp
theorem ak_Pc_1 {l : List (Int × Int)} {x : Int × Int} : ak_Pc l x 1 = l ++ [x] := by unfold ak_Pc; simp
/-- what a change of an object changes of the one -/
def ak_fA (o : Nat) (h h' : ak_S) : Prop := (∀ q k, ¬ (q = 33 ∧ k = 4) → ¬ (37 ≤ q ∧ q ≤ 40) → ¬ (q = 34 ∧ k = o) → ¬ (q = 35 ∧ 12 * o ≤ k ∧ k < 12 * o + 12) → h'.1 q k = h.1 q k) ∧ (∀ q k, ¬ (q = 36 ∧ 12 * o ≤ k ∧ k < 12 * o + 12) → h'.2.1 q k = h.2.1 q k) ∧ h'.2.2 = h.2.2
section COME
variable {e : ak_X3} {d S O o s j0 : Nat} {ρ : List Nat} {T : Nat → List (Int × Int)} {h h' h2 : ak_S} {X : Nat → ak_S → Prop} {kd wt : Int}
theorem ak_fA_refl : ak_fA o h h := ⟨fun _ _ _ _ _ _ => rfl, fun _ _ _ => rfl, rfl⟩
theorem ak_fA_trans (w : ak_fA o h h') (w2 : ak_fA o h' h2) : ak_fA o h h2 := ⟨fun q k a b c d => (w2.1 q k a b c d).trans (w.1 q k a b c d), fun q k a => (w2.2.1 q k a).trans (w.2.1 q k a), w2.2.2.trans w.2.2⟩
theorem ak_wC_fA (w : ak_wC h h') : ak_fA o h h' := ⟨fun q k a b _ _ => w.1 q k a b, fun q k _ => by rw [w.2], by rw [w.2]⟩
theorem ak_tC_out (w : ak_tC S T h) (f : ∀ q k, (q = 33 ∧ k = 4) ∨ (37 ≤ q ∧ q ≤ 40) → h'.1 q k = h.1 q k) : ak_tC S T h' := by
  refine ⟨(f _ _ (by omega)).trans w.1, fun s hs => ?_⟩
  obtain ⟨c1, c2, c3⟩ := w.2 s hs
  refine ⟨(f _ _ (by omega)).trans c1, fun k x hx => ?_, fun t x ht he => (f _ _ (by omega)).trans (c3 t x ht he)⟩
  rw [f 39 _ (by omega), f 40 _ (by omega)]
  exact c2 k x hx
def ak_hd (h : ak_S) (o a : Nat) (sv wv : Int) : ak_S := (am_up h.1 35 (12 * o + a) sv, am_up h.2.1 36 (12 * o + a) wv, h.2.2)
theorem am_s155 {Q : ak_S → Prop} {a : Nat} {sv wv : Int} (ho : o < 200) (ha : a < 12) (q : Q (ak_hd h o a sv wv)) : ak_MV e 0 (d + 1) ρ 155 [am_r 33, am_i (o : Int), am_i (a : Int), am_i sv, am_l wv] h Q X := by
  refine ak_MV_of (Nat.le_of_ble_eq_true rfl) (am_k155_0 ?_)
  rw [ak_w12 (show 12 * o + a < 1000000 by omega), ak_natn]
  exact ⟨by omega, by omega, q⟩
theorem ak_hd_fA {a : Nat} {sv wv : Int} (ha : a < 12) : ak_fA o h (ak_hd h o a sv wv) := by
  refine ⟨fun q k _ _ _ b => ?_, fun q k b => ?_, rfl⟩
  · show am_up h.1 35 (12 * o + a) sv q k = _
    exact ak_up_out (by omega)
  · show am_up h.2.1 36 (12 * o + a) wv q k = _
    exact ak_up_out (by omega)
theorem am_s157 {Q : Int → ak_S → Prop} {sv wv : Int} (W : ak_Tok S T O) (C : ak_tC S T h) (ho : o < 200) (h34 : h.1 34 o = (s : Int)) (hs : s < S) (hx : ak_it O (kd, wt)) (u : ak_upto S j0 1 T (ak_Pc (T s) (kd, wt)))
    (q8 : (T s).length = 12 ∨ 400 < S + (1 - j0) → Q 8 h)
    (q0 : (T s).length < 12 → S + (1 - j0) ≤ 400 → ∀ t h', t < S + (1 - j0) → ak_Tg S j0 T (ak_Pc (T s) (kd, wt)) t = T s ++ [(kd, wt)] → ak_tC (S + (1 - j0)) (ak_Tg S j0 T (ak_Pc (T s) (kd, wt))) h' → h'.1 34 o = (t : Int) →
      (∀ k, k ≠ (T s).length → h'.1 35 (12 * o + k) = h.1 35 (12 * o + k) ∧ h'.2.1 36 (12 * o + k) = h.2.1 36 (12 * o + k)) → h'.1 35 (12 * o + (T s).length) = sv → h'.2.1 36 (12 * o + (T s).length) = wv → ak_fA o h h' → Q 0 h') :
    ak_MI e 0 (d + 2) ρ 157 [am_r 33, am_i (o : Int), am_i kd, am_i wt, am_i sv, am_l wv] h Q X := by
  have hS := W.1.2.1
  have hn := (C.2 s hs).1
  have hn2 := (W.2.1 s hs).1
  refine ak_MI_of (Nat.le_of_ble_eq_true rfl) (am_k157_0 ?_)
  rw [ak_natn, h34, ak_natn, hn]
  refine ⟨by omega, by omega, fun hl => ⟨by omega, ?_⟩, fun hl => q8 (Or.inl (by omega))⟩
  have hl' : (T s).length < 12 := by omega
  have fin : ∀ (t : Nat) (h1 : ak_S), S + (1 - j0) ≤ 400 → t < S + (1 - j0) → ak_Tg S j0 T (ak_Pc (T s) (kd, wt)) t = T s ++ [(kd, wt)] → ak_tC (S + (1 - j0)) (ak_Tg S j0 T (ak_Pc (T s) (kd, wt))) h1 → ak_wC h h1 →
      ak_W0 e 0 (d + 1) 157 ρ 56 [some (am_r 33), some (am_i (o : Int)), none, none, some (am_i sv), some (am_l wv), none, some (am_i ((T s).length : Int)), some (am_i (t : Int))] [] h1 (ak_qi Q X) := by
    intro t h1 g1 g2 g3 g4 g5
    refine am_k157_56 ⟨fun _ => am_s155 ho hl' ⟨by omega, ?_⟩, fun g => by omega⟩
    rw [ak_natn]
    have G : ∀ q k, ¬ (q = 35 ∧ k = 12 * o + (T s).length) → ¬ (q = 34 ∧ k = o) → am_up (ak_hd h1 o (T s).length sv wv).1 34 o (t : Int) q k = h1.1 q k := fun q k a b => (ak_up_out b).trans (ak_up_out a)
    refine q0 hl' g1 t _ g2 g3 (ak_tC_out g4 (fun q k a => G q k (by omega) (by omega))) ak_up_at1 (fun k hk => ⟨(G 35 _ (by omega) (by omega)).trans (g5.1 35 _ (by omega) (by omega)), ?_⟩) ?_ ?_ ⟨fun q k a b c dd => (G q k (by omega) (by omega)).trans (g5.1 q k a b), fun q k b => ?_, by show h1.2.2 = _; rw [g5.2]⟩
    · show am_up h1.2.1 36 _ _ 36 _ = _
      rw [ak_up_out (by omega), g5.2]
    · exact (ak_up_out1 (by omega)).trans ak_up_at1
    · show am_up h1.2.1 36 (12 * o + (T s).length) wv 36 (12 * o + (T s).length) = _
      unfold am_up
      rw [if_pos rfl, if_pos rfl]
    · show am_up h1.2.1 36 _ _ q k = _
      rw [ak_up_out (by omega), g5.2]
  refine am_s159 (d := d) W C hs (fun t ht et => ⟨fun _ => ?_, fun g => by omega⟩) (fun no => ⟨fun g => absurd g (by decide), fun _ => ⟨by omega, ?_⟩⟩)
  · have j1 : j0 = 1 := by
      by_cases h : j0 = 1
      · exact h
      · have := u.1
        exact absurd (et.trans ak_Pc_1.symm) (u.2.2 1 (by omega) (Nat.le_refl _) t ht)
    subst j1
    exact fin t h (by omega) (by omega) (by rw [ak_Tg_lt ht]; exact et) (ak_tC_congr C (fun s hs => (ak_Tg_lt hs).symm)) ak_wC_refl
  · have j1 : j0 = 0 := by
      by_cases h : j0 = 0
      · exact h
      · have := u.1
        obtain ⟨t, ht, et⟩ := u.2.1 1 (by omega)
        exact absurd (et.trans ak_Pc_1) (no t ht)
    subst j1
    rw [h34]
    by_cases hS2 : S = 400
    · refine ak_MI_of (Nat.le_of_ble_eq_true rfl) (am_k160_0 ⟨by omega, fun _ => am_k157_56 ⟨fun g => absurd g (by decide), fun _ => q8 (Or.inr (by omega))⟩, fun g => ?_⟩)
      rw [C.1] at g; omega
    · refine am_s160 (d := d) W C hs (by omega) hl' no (fun h1 c1 f1 => fin S h1 (by omega) (by omega) ?_ (ak_tC_congr c1 (fun s' hs' => ?_)) f1)
      · exact (ak_Tg_at (i := 0)).trans ak_Pc_1
      · by_cases h : s' = S
        · subst h
          rw [ak_Ta_eq]
          exact ((ak_Tg_at (i := 0)).trans ak_Pc_1).symm
        · rw [ak_Ta_lt (by omega), ak_Tg_lt (by omega)]
end COME
