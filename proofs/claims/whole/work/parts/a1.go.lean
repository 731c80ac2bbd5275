/-! the one lets an item go -/
section GO
variable {e : ak_X3} {d S O o s j0 a : Nat} {ρ : List Nat} {T : Nat → List (Int × Int)} {h h' h2 : ak_S} {X : Nat → ak_S → Prop}
theorem ak_hd_tC {sv wv : Int} (w : ak_tC S T h) : ak_tC S T (ak_hd h o a sv wv) := ak_tC_out w (fun q k hq => ak_up_out (by omega))
theorem am_s158 {Q : Int → ak_S → Prop} (W : ak_Tok S T O) (C : ak_tC S T h) (ho : o < 200) (h34 : h.1 34 o = (s : Int)) (hs : s < S) (ha : a < (T s).length) (u : ak_upto S j0 ((T s).length - a - 1) T (ak_Pg (T s) a))
    (q8 : 400 < S + ((T s).length - a - 1 - j0) → Q 8 h)
    (q0 : S + ((T s).length - a - 1 - j0) ≤ 400 → ∀ t h', t < S + ((T s).length - a - 1 - j0) → ak_Tg S j0 T (ak_Pg (T s) a) t = ak_Pg (T s) a ((T s).length - a - 1) → ak_tC (S + ((T s).length - a - 1 - j0)) (ak_Tg S j0 T (ak_Pg (T s) a)) h' → h'.1 34 o = (t : Int) →
      (∀ k, k < a → h'.1 35 (12 * o + k) = h.1 35 (12 * o + k) ∧ h'.2.1 36 (12 * o + k) = h.2.1 36 (12 * o + k)) → (∀ k, a ≤ k → k + 1 < (T s).length → h'.1 35 (12 * o + k) = h.1 35 (12 * o + (k + 1)) ∧ h'.2.1 36 (12 * o + k) = h.2.1 36 (12 * o + (k + 1))) → ak_fA o h h' → Q 0 h') :
    ak_MI e 0 (d + 2) ρ 158 [am_r 33, am_i (o : Int), am_i (a : Int)] h Q X := by
  have hS := W.1.2.1
  have hn := (C.2 s hs).1
  have hn2 := (W.2.1 s hs).1
  have hcl : ∀ k x, (T s)[k]? = some x → h.1 39 (12 * s + k) = x.1 ∧ h.1 40 (12 * s + k) = x.2 := (C.2 s hs).2.1
  have ch := ak_Pg_ch (O := O) ha hn2 (W.2.1 s hs).2
  generalize hm : (T s).length - a - 1 = m at *
  -- the values move up
  have shift : ∀ (c k t : Nat) (h1 : ak_S), k + c = (T s).length → a + 1 ≤ k → S + (m - j0) ≤ 400 → t < S + (m - j0) → ak_Tg S j0 T (ak_Pg (T s) a) t = ak_Pg (T s) a m → ak_tC (S + (m - j0)) (ak_Tg S j0 T (ak_Pg (T s) a)) h1 → ak_fA o h h1 →
      (∀ i, i < a → h1.1 35 (12 * o + i) = h.1 35 (12 * o + i) ∧ h1.2.1 36 (12 * o + i) = h.2.1 36 (12 * o + i)) → (∀ i, a ≤ i → i + 1 < k → h1.1 35 (12 * o + i) = h.1 35 (12 * o + (i + 1)) ∧ h1.2.1 36 (12 * o + i) = h.2.1 36 (12 * o + (i + 1))) →
      (∀ i, k ≤ i + 1 → h1.1 35 (12 * o + (i + 1)) = h.1 35 (12 * o + (i + 1)) ∧ h1.2.1 36 (12 * o + (i + 1)) = h.2.1 36 (12 * o + (i + 1))) →
      ak_W0 e 0 (d + 1) 158 ρ 190 [some (am_r 33), some (am_i (o : Int)), none, some (am_i (s : Int)), some (am_i (t : Int)), none, some (am_i (k : Int))] [] h1 (ak_qi Q X) := by
    intro c
    induction c with
    | zero =>
      intro k t h1 hk hak g1 g2 g3 g4 f v1 v2 v3
      have e37 : h1.1 37 s = ((T s).length : Int) := by
        have := (g4.2 s (by omega)).1
        rw [ak_Tg_lt hs] at this
        exact this
      refine am_k158_190 ⟨by omega, fun _ => ?_, fun g => ?_⟩
      · rw [ak_natn]
        have G : ∀ q k, ¬ (q = 34 ∧ k = o) → am_up h1.1 34 o (t : Int) q k = h1.1 q k := fun q k a => ak_up_out a
        refine ⟨by omega, q0 g1 t _ g2 g3 (ak_tC_out g4 (fun q k a => G q k (by omega))) ak_up_at1 (fun i hi => ⟨(G 35 _ (by omega)).trans (v1 i hi).1, (v1 i hi).2⟩) (fun i hi hi2 => ⟨(G 35 _ (by omega)).trans (v2 i hi (by omega)).1, (v2 i hi (by omega)).2⟩) ⟨fun q k a1 a2 a3 a4 => (G q k a3).trans (f.1 q k a1 a2 a3 a4), f.2.1, f.2.2⟩⟩
      · rw [ak_natn, e37] at g; omega
    | succ c ih =>
      intro k t h1 hk hak g1 g2 g3 g4 f v1 v2 v3
      have e37 : h1.1 37 s = ((T s).length : Int) := by
        have := (g4.2 s (by omega)).1
        rw [ak_Tg_lt hs] at this
        exact this
      obtain ⟨i, rfl⟩ : ∃ i, k = i + 1 := ⟨k - 1, by omega⟩
      refine am_k158_190 ⟨by omega, fun g => ?_, fun _ => ?_⟩
      · rw [ak_natn, e37] at g; omega
      · rw [ak_w12 (show 12 * o + (i + 1) < 1000000 by omega), ak_natn, show am_w32 (((i + 1 : Nat) : Int) - 1) = (i : Int) from by rw [ak_w _ (by omega)]; omega, ak_wj (show i + 1 < 1000000 by omega)]
        refine ⟨by omega, by omega, am_s155 (d := d) ho (show i < 12 by omega) ?_⟩
        have F := ak_hd_fA (o := o) (h := h1) (a := i) (sv := h1.1 35 (12 * o + (i + 1))) (wv := h1.2.1 36 (12 * o + (i + 1))) (show i < 12 by omega)
        have V : ∀ j, j ≠ i → (ak_hd h1 o i (h1.1 35 (12 * o + (i + 1))) (h1.2.1 36 (12 * o + (i + 1)))).1 35 (12 * o + j) = h1.1 35 (12 * o + j) ∧ (ak_hd h1 o i (h1.1 35 (12 * o + (i + 1))) (h1.2.1 36 (12 * o + (i + 1)))).2.1 36 (12 * o + j) = h1.2.1 36 (12 * o + j) := fun j hj => by
          exact ⟨ak_up_out (f := h1.1) (p := 35) (k := 12 * o + i) (q := 35) (j := 12 * o + j) (by omega), ak_up_out (f := h1.2.1) (p := 36) (k := 12 * o + i) (q := 36) (j := 12 * o + j) (by omega)⟩
        have V2 : (ak_hd h1 o i (h1.1 35 (12 * o + (i + 1))) (h1.2.1 36 (12 * o + (i + 1)))).1 35 (12 * o + i) = h1.1 35 (12 * o + (i + 1)) ∧ (ak_hd h1 o i (h1.1 35 (12 * o + (i + 1))) (h1.2.1 36 (12 * o + (i + 1)))).2.1 36 (12 * o + i) = h1.2.1 36 (12 * o + (i + 1)) := by
          unfold ak_hd
          constructor
          · simp [am_up]
          · simp [am_up]
        have V3 := fun g => ak_hd_tC (S := S + (m - j0)) (T := ak_Tg S j0 T (ak_Pg (T s) a)) (h := h1) (o := o) (a := i) (sv := h1.1 35 (12 * o + (i + 1))) (wv := h1.2.1 36 (12 * o + (i + 1))) g
        generalize ak_hd h1 o i (h1.1 35 (12 * o + (i + 1))) (h1.2.1 36 (12 * o + (i + 1))) = h3 at F V V2 V3
        refine ih (i + 1 + 1) t h3 (by omega) (by omega) g1 g2 g3 (V3 g4) (ak_fA_trans f F) (fun j hj => ?_) (fun j k1 k2 => ?_) (fun j hj => ?_)
        · exact ⟨(V j (by omega)).1.trans (v1 j hj).1, (V j (by omega)).2.trans (v1 j hj).2⟩
        · by_cases hji : j = i
          · subst hji
            exact ⟨V2.1.trans (v3 j (by omega)).1, V2.2.trans (v3 j (by omega)).2⟩
          · exact ⟨(V j hji).1.trans (v2 j k1 (by omega)).1, (V j hji).2.trans (v2 j k1 (by omega)).2⟩
        · exact ⟨(V (j + 1) (by omega)).1.trans (v3 j (by omega)).1, (V (j + 1) (by omega)).2.trans (v3 j (by omega)).2⟩
  -- the shapes that are missing
  have make : ∀ (c i t0 : Nat) (h1 : ak_S), i + c = m - j0 → S + (m - j0) ≤ 400 → t0 < S → T t0 = ak_Pg (T s) a j0 → ak_tC (S + i) (ak_Tg S j0 T (ak_Pg (T s) a)) h1 → ak_wC h h1 →
      ak_W0 e 0 (d + 1) 158 ρ 132 [some (am_r 33), some (am_i (o : Int)), some (am_i (a : Int)), some (am_i (s : Int)), some (am_i (ak_Tgi S t0 i : Int)), none, some (am_i ((a + 1 + j0 + i : Nat) : Int))] [] h1 (ak_qi Q X) := by
    have uu := u.1
    intro c
    induction c with
    | zero =>
      intro i t0 h1 hi g1 ht0 et0 g4 f
      have e37 : h1.1 37 s = ((T s).length : Int) := by
        have := (g4.2 s (by omega)).1
        rw [ak_Tg_lt hs] at this
        exact this
      have hie : i = m - j0 := by omega
      subst hie
      refine am_k158_132 ⟨by omega, fun _ => ?_, fun g => ?_⟩
      · rw [ak_wj (show a < 1000000 by omega)]
        refine shift ((T s).length - (a + 1)) (a + 1) _ h1 (by omega) (Nat.le_refl _) g1 (ak_Tgi_lt ht0) ?_ g4 (ak_wC_fA f) (fun i _ => ⟨f.1 35 _ (by omega) (by omega), by rw [f.2]⟩) (fun i k1 k2 => by omega) (fun i _ => ⟨f.1 35 _ (by omega) (by omega), by rw [f.2]⟩)
        rw [ak_Tgi_T ht0 et0, show j0 + (m - j0) = m by omega]
      · rw [ak_natn, e37] at g; omega
    | succ c ih =>
      intro i t0 h1 hi g1 ht0 et0 g4 f
      have e37 : h1.1 37 s = ((T s).length : Int) := by
        have := (g4.2 s (by omega)).1
        rw [ak_Tg_lt hs] at this
        exact this
      have hx := List.getElem?_eq_getElem (show a + 1 + (j0 + i) < (T s).length by omega)
      have cl := (g4.2 s (by omega)).2.1 (a + 1 + (j0 + i)) _ (by rw [ak_Tg_lt hs]; exact hx)
      have tg := ak_Tgi_T (T := T) (P := ak_Pg (T s) a) (j0 := j0) (i := i) ht0 et0
      have WW := ak_Tg_Tok W ch u i (by omega) (by omega)
      have psu := ak_Pg_succ hx
      refine am_k158_132 ⟨by omega, fun g => ?_, fun _ => ?_⟩
      · rw [ak_natn, e37] at g; omega
      · rw [ak_w12 (show 12 * s + (a + 1 + j0 + i) < 1000000 by omega), ak_natn, show 12 * s + (a + 1 + j0 + i) = 12 * s + (a + 1 + (j0 + i)) by omega, cl.1, cl.2, ak_wj (show a + 1 + j0 + i < 1000000 by omega)]
        refine ⟨by omega, by omega, am_s160 (d := d) WW g4 (ak_Tgi_lt ht0) (by omega) ?_ (fun t ht => ?_) (fun h2 c2 f2 => ?_)⟩
        · rw [tg, ak_Pg_len ha (by omega)]; omega
        · rw [tg, ← psu]
          exact ak_Tgi_no ch u (by omega) t ht
        · rw [if_pos (by omega), show a + 1 + j0 + i + 1 = a + 1 + j0 + (i + 1) by omega]
          have := ih (i + 1) t0 h2 (by omega) g1 ht0 et0 (ak_tC_congr c2 (fun s' hs' => ?_)) (ak_wC_trans f f2)
          · unfold ak_Tgi at this
            rw [if_neg (by omega), show S + (i + 1) - 1 = S + i by omega] at this
            exact this
          · rw [tg, ← psu, show j0 + i + 1 = j0 + 1 + i by omega]
            exact ak_Tg_Ta s' (by omega)
  -- how many are there
  have count : ∀ t0, t0 < S → T t0 = ak_Pg (T s) a j0 → ak_W0 e 0 (d + 1) 158 ρ 105 [some (am_r 33), some (am_i (o : Int)), some (am_i (a : Int)), some (am_i (s : Int)), some (am_i (t0 : Int)), some (am_i ((a + 1 + j0 : Nat) : Int)), none] [] h (ak_qi Q X) := by
    intro t0 ht0 et0
    have uu := u.1
    refine am_k158_105 ⟨by omega, fun g => ?_, fun g => ?_⟩
    · rw [ak_natn, hn, C.1, ak_w _ (by omega), ak_w _ (by omega)] at g
      exact make (m - j0) 0 t0 h (by omega) (by omega) ht0 et0 (ak_tC_congr C (fun s hs => (ak_Tg_lt hs).symm)) ak_wC_refl
    · rw [ak_natn, hn, C.1, ak_w _ (by omega), ak_w _ (by omega)] at g
      exact q8 (by omega)
  have find : ∀ (c i t : Nat), i + c = m → i ≤ j0 → t < S → T t = ak_Pg (T s) a i → ak_W0 e 0 (d + 1) 158 ρ 44 [some (am_r 33), some (am_i (o : Int)), some (am_i (a : Int)), some (am_i (s : Int)), some (am_i (t : Int)), some (am_i ((a + 1 + i : Nat) : Int)), none] [] h (ak_qi Q X) := by
    intro c
    induction c with
    | zero =>
      intro i t hi hij ht et
      have uu := u.1
      have : i = j0 := by omega
      subst this
      refine am_k158_44 ⟨by omega, fun _ => count t ht et, fun g => ?_⟩
      rw [ak_natn, hn] at g; omega
    | succ c ih =>
      intro i t hi hij ht et
      have hx := List.getElem?_eq_getElem (show a + 1 + i < (T s).length by omega)
      have cl := hcl _ _ hx
      have psu := ak_Pg_succ hx
      refine am_k158_44 ⟨by omega, fun g => ?_, fun _ => ?_⟩
      · rw [ak_natn, hn] at g; omega
      · rw [ak_w12 (show 12 * s + (a + 1 + i) < 1000000 by omega), ak_natn, cl.1, cl.2, ak_wj (show a + 1 + i < 1000000 by omega)]
        refine ⟨by omega, by omega, am_s159 (d := d) W C ht (fun t' ht' et' => ⟨fun _ => ?_, fun g => by omega⟩) (fun no => ⟨fun g => absurd g (by decide), fun _ => ?_⟩)⟩
        · rw [et, ← psu] at et'
          refine ih (i + 1) t' (by omega) ?_ ht' et'
          rcases Nat.lt_or_ge j0 (i + 1) with h | h
          · exact absurd et' (u.2.2 (i + 1) h (by omega) t' ht')
          · exact h
        · have : i = j0 := by
            rcases Nat.lt_or_ge i j0 with h | h
            · obtain ⟨t', ht', et'⟩ := u.2.1 (i + 1) (by omega)
              exact absurd (by rw [et', et, ← psu]) (no t' ht')
            · omega
          subst this
          exact count t ht et
  have back : ∀ (c x t : Nat), a + c = x → x ≤ (T s).length → t < S → T t = (T s).take x → ak_W0 e 0 (d + 1) 158 ρ 18 [some (am_r 33), some (am_i (o : Int)), some (am_i (a : Int)), some (am_i (s : Int)), some (am_i (t : Int)), some (am_i (x : Int)), none] [] h (ak_qi Q X) := by
    intro c
    induction c with
    | zero =>
      intro x t hx hxl ht et
      have : x = a := by omega
      subst this
      refine am_k158_18 ⟨fun _ => ?_, fun g => by omega⟩
      rw [ak_wj (show x < 1000000 by omega)]
      exact find m 0 t (by omega) (Nat.zero_le _) ht (by rw [et]; unfold ak_Pg; simp)
    | succ c ih =>
      intro x t hx hxl ht et
      have hlen : (T t).length = x := by rw [et, List.length_take]; omega
      have t1 : 1 ≤ t := by
        by_cases h0 : t = 0
        · rw [h0, W.1.2.2] at hlen
          simp at hlen
          omega
        · omega
      obtain ⟨t', y, h1, h2⟩ := W.2.2.1 t t1 ht
      refine am_k158_18 ⟨fun g => by omega, fun _ => ⟨by omega, ?_⟩⟩
      rw [ak_natn, (C.2 t ht).2.2 t' y (by omega) h2, show am_w32 ((x : Int) + -1) = ((x - 1 : Nat) : Int) from by rw [ak_w _ (by omega)]; omega]
      refine ih (x - 1) t' (by omega) (by omega) (by omega) ?_
      have l1 : (T t').length = x - 1 := by
        rw [h2, List.length_append] at hlen
        simp at hlen
        omega
      have l2 : (T t).take (x - 1) = T t' := by rw [h2, ← l1, List.take_append_of_le_length (Nat.le_refl _), List.take_length]
      rw [← l2, et, List.take_take, show min (x - 1) x = x - 1 by omega]
  refine ak_MI_of (Nat.le_of_ble_eq_true rfl) (am_k158_0 ?_)
  rw [ak_natn, h34, ak_natn, hn]
  exact ⟨by omega, by omega, back ((T s).length - a) (T s).length s (by omega) (Nat.le_refl _) hs (by rw [List.take_length])⟩
end GO
