/-! the other asks for a shape item by item -/
def ak_bf (l : List (Int × Int)) (h : ak_S) : Prop := h.1 110 62 = (l.length : Int) ∧ ∀ k x, l[k]? = some x → h.1 152 k = x.1 ∧ h.1 153 k = x.2
def ak_ob (l : List (Int × Int)) (o : Nat) (h : ak_S) : Prop := h.1 141 o = (l.length : Int) ∧ ∀ k x, l[k]? = some x → h.1 143 (12 * o + k) = x.1 ∧ h.1 144 (12 * o + k) = x.2
/-- what asking and making changes -/
def ak_wM (hm hm' : ak_S) : Prop := (∀ q k, ¬ (q = 110 ∧ (k = 53 ∨ k = 62)) → ¬ (147 ≤ q ∧ q ≤ 149) → ¬ (152 ≤ q ∧ q ≤ 153) → hm'.1 q k = hm.1 q k) ∧ hm'.2 = hm.2
def ak_wF (hm hm' : ak_S) : Prop := (∀ q k, ¬ (q = 110 ∧ k = 62) → ¬ (152 ≤ q ∧ q ≤ 153) → hm'.1 q k = hm.1 q k) ∧ hm'.2 = hm.2
theorem ak_w12m {p j : Nat} (h : 12 * p + j < 1000000) : am_w32 (am_w32 (12 * (p : Int)) + (j : Int)) = ((12 * p + j : Nat) : Int) := ak_wmul (c := 12) h
section ASK
variable {e : ak_X3} {d S O o : Nat} {ρ : List Nat} {T : Nat → List (Int × Int)} {hm h h' h2 : ak_S} {l L : List (Int × Int)} {X : Nat → ak_S → Prop}
theorem ak_wM_refl : ak_wM h h := ⟨fun _ _ _ _ _ => rfl, rfl⟩
theorem ak_wM_trans (w : ak_wM h h') (w2 : ak_wM h' h2) : ak_wM h h2 := ⟨fun q k a b c => (w2.1 q k a b c).trans (w.1 q k a b c), w2.2.trans w.2⟩
theorem ak_wF_refl : ak_wF h h := ⟨fun _ _ _ _ => rfl, rfl⟩
theorem ak_wF_trans (w : ak_wF h h') (w2 : ak_wF h' h2) : ak_wF h h2 := ⟨fun q k a b => (w2.1 q k a b).trans (w.1 q k a b), w2.2.trans w.2⟩
theorem ak_wF_M (w : ak_wF h h') : ak_wM h h' := ⟨fun q k a b c => w.1 q k (by omega) c, w.2⟩
theorem ak_ob_M (w : ak_ob L o h) (f : ak_wM h h') : ak_ob L o h' := by
  refine ⟨(f.1 _ _ (by omega) (by omega) (by omega)).trans w.1, fun k x hx => ?_⟩
  rw [f.1 143 _ (by omega) (by omega) (by omega), f.1 144 _ (by omega) (by omega) (by omega)]
  exact w.2 k x hx
theorem ak_tM_B (w : ak_tM S T h) (f : ak_wF h h') : ak_tM S T h' := by
  refine ⟨(f.1 _ _ (by omega) (by omega)).trans w.1, fun s hs => ⟨(f.1 _ _ (by omega) (by omega)).trans (w.2 s hs).1, fun k x hx => ?_⟩⟩
  rw [f.1 148 _ (by omega) (by omega), f.1 149 _ (by omega) (by omega)]
  exact (w.2 s hs).2 k x hx
theorem am_s242 {Q : ak_S → Prop} {i : Nat} {x : Int × Int} (B : ak_bf l h) (W : ak_ob L o h) (ho : o < 200) (hi : L[i]? = some x) (hi2 : i < 12) (hl : l.length < 12) (q : ∀ h', ak_bf (l ++ [x]) h' → ak_wF h h' → Q h') : ak_MV e 1 (d + 1) ρ 242 [am_r 110, am_i (o : Int), am_i (i : Int)] h Q X := by
  refine ak_MV_of (Nat.le_of_ble_eq_true rfl) (am_k242_0 ?_)
  rw [ak_w12m (show 12 * o + i < 1000000 by omega), ak_natn, B.1, ak_natn, ak_wj (show l.length < 1000000 by omega), (W.2 i x hi).1, (W.2 i x hi).2]
  refine ⟨by omega, by omega, by omega, by omega, q _ ⟨?_, fun k y hy => ?_⟩ ⟨fun q k a b => ?_, rfl⟩⟩
  · refine ak_up_at1.trans ?_
    rw [List.length_append]; rfl
  · have hk := ak_get_none hy
    rw [List.length_append] at hk
    simp at hk
    show am_up (am_up (am_up h.1 152 l.length x.1) 153 l.length x.2) 110 62 ((l.length + 1 : Nat) : Int) 152 k = _ ∧ am_up (am_up (am_up h.1 152 l.length x.1) 153 l.length x.2) 110 62 ((l.length + 1 : Nat) : Int) 153 k = _
    by_cases hkl : k = l.length
    · subst hkl
      rw [ak_get_snoc] at hy
      cases hy
      constructor
      · simp [am_up]
      · simp [am_up]
    · rw [ak_get_snoc_lt (by omega)] at hy
      rw [ak_up_out (by omega), ak_up_out (by omega), ak_up_out (by omega), ak_up_out (by omega), ak_up_out (by omega), ak_up_out (by omega)]
      exact B.2 k y hy
  · show am_up (am_up (am_up h.1 152 l.length x.1) 153 l.length x.2) 110 62 ((l.length + 1 : Nat) : Int) q k = _
    rw [ak_up_out (by omega), ak_up_out (by omega), ak_up_out (by omega)]
theorem am_s241 {Q : ak_S → Prop} {n : Nat} (W : ak_ob L o h) (ho : o < 200) (hL : L.length ≤ 12) (hn : n ≤ L.length) (q : ∀ h', ak_bf (L.take n) h' → ak_wF h h' → Q h') : ak_MV e 1 (d + 2) ρ 241 [am_r 110, am_i (o : Int), am_i (n : Int)] h Q X := by
  have lp : ∀ (c x : Nat) (h1 : ak_S), x + c = n → ak_bf (L.take x) h1 → ak_wF h h1 → ak_W0 e 1 (d + 1) 241 ρ 7 [some (am_r 110), some (am_i (o : Int)), some (am_i (n : Int)), some (am_i (x : Int))] [] h1 (ak_qv Q X) := by
    intro c
    induction c with
    | zero =>
      intro x h1 hx b f
      have : x = n := by omega
      subst this
      exact am_k241_7 ⟨fun _ => q h1 b f, fun g => by omega⟩
    | succ c ih =>
      intro x h1 hx b f
      have hxL : x < L.length := by omega
      refine am_k241_7 ⟨fun g => by omega, fun _ => ?_⟩
      refine am_s242 b (ak_ob_M W (ak_wF_M f)) ho (List.getElem?_eq_getElem hxL) (by omega) (by rw [List.length_take]; omega) (fun h2 b2 f2 => ?_)
      rw [ak_wj (show x < 1000000 by omega)]
      refine ih (x + 1) h2 (by omega) ?_ (ak_wF_trans f f2)
      rw [List.take_add_one, List.getElem?_eq_getElem hxL]
      exact b2
  refine ak_MV_of (Nat.le_of_ble_eq_true rfl) (am_k241_0 (lp n 0 (am_up h.1 110 62 0, h.2) (by omega) ⟨?_, fun k x hx => ?_⟩ ⟨fun q k a b => ak_up_out1 a, rfl⟩))
  · show am_up h.1 110 62 0 110 62 = _
    rw [ak_up_eq]; rfl
  · simp at hx
theorem am_s239 {Q : Int → ak_S → Prop} (M : ak_tM S T h) (hS : S ≤ 400) (hT : ∀ s, s < S → (T s).length ≤ 12) (B : ak_bf l h) (hl : l.length ≤ 12) (q1 : ∀ t, t < S → T t = l → Q (t : Int) h) (q2 : (∀ t, t < S → T t ≠ l) → Q (-1) h) :
    ak_MI e 1 (d + 1) ρ 239 [am_r 110] h Q X := by
  have lp : ∀ (c s : Nat), s + c = S → (∀ t, t < s → T t ≠ l) → ak_W0 e 1 d 239 ρ 2 [some (am_r 110), some (am_i (s : Int)), none, none] [] h (ak_qi Q X) := by
    intro c
    induction c with
    | zero =>
      intro s hs no
      refine am_k239_2 ⟨fun _ => q2 (fun t ht => no t (by omega)), fun g => ?_⟩
      rw [M.1] at g; omega
    | succ c ih =>
      intro s hs no
      have hsS : s < S := by omega
      obtain ⟨m1, m2⟩ := M.2 s hsS
      have next : T s ≠ l → ak_W0 e 1 d 239 ρ 2 [some (am_r 110), some (am_i (am_w32 ((s : Int) + 1))), none, none] [] h (ak_qi Q X) := fun hne => by
        rw [ak_wj (show s < 1000000 by omega)]
        exact ih (s + 1) (by omega) (fun t ht => by
          by_cases h : t = s
          · rw [h]; exact hne
          · exact no t (by omega))
      have zero : ∀ x : Int, T s ≠ l → ak_W0 e 1 d 239 ρ 31 [some (am_r 110), some (am_i (s : Int)), some (am_i 0), some (am_i x)] [] h (ak_qi Q X) := fun x hne =>
        am_k239_31 ⟨fun _ => ⟨fun _ => next hne, fun g => absurd rfl g⟩, fun _ => ⟨fun _ => ⟨fun _ => next hne, fun g => absurd rfl g⟩, fun g => absurd rfl g⟩⟩
      have one : ∀ (c x : Nat), x + c = l.length → (T s).length = l.length → (∀ k, k < x → (T s)[k]? = l[k]?) → ak_W0 e 1 d 239 ρ 31 [some (am_r 110), some (am_i (s : Int)), some (am_i 1), some (am_i (x : Int))] [] h (ak_qi Q X) := by
        intro c
        induction c with
        | zero =>
          intro x hx hlen eqs
          refine am_k239_31 ⟨fun _ => ⟨fun g => absurd g (by decide), fun _ => q1 s hsS (List.ext_getElem? fun k => ?_)⟩, fun g => ?_⟩
          · by_cases hk : k < x
            · exact eqs k hk
            · rw [List.getElem?_eq_none (by omega), List.getElem?_eq_none (by omega)]
          · rw [B.1] at g; omega
        | succ c ih2 =>
          intro x hx hlen eqs
          have g1 : (T s)[x]? = some (T s)[x] := List.getElem?_eq_getElem (by omega)
          have g2 : l[x]? = some l[x] := List.getElem?_eq_getElem (by omega)
          have a1 := m2 x _ g1
          have a2 := B.2 x _ g2
          refine am_k239_31 ⟨fun g => ?_, fun _ => ⟨fun g => absurd g (by decide), fun _ => ?_⟩⟩
          · rw [B.1] at g; omega
          · rw [ak_w12m (show 12 * s + x < 1000000 by omega), ak_natn, ak_natn, ak_wj (show x < 1000000 by omega), a1.1, a1.2, a2.1, a2.2]
            have no' : (T s)[x] ≠ l[x] → T s ≠ l := fun hne he => hne (by
              have := g1.symm.trans ((congrArg (fun z => z[x]?) he).trans g2)
              exact Option.some.inj this)
            refine ⟨by omega, by omega, fun g => zero _ (no' (fun he => g (by rw [he]))), fun e1 => ⟨by omega, by omega, fun g => zero _ (no' (fun he => g (by rw [he]))), fun e2 => ?_⟩⟩
            refine ih2 (x + 1) (by omega) hlen (fun k hk => ?_)
            by_cases hkx : k = x
            · subst hkx
              rw [g1, g2, Prod.ext e1 e2]
            · exact eqs k (by omega)
      refine am_k239_2 ⟨fun g => ?_, fun _ => ?_⟩
      · rw [M.1] at g; omega
      · rw [ak_natn, m1, B.1]
        refine ⟨by omega, fun g => zero 0 (fun he => g (by rw [he])), fun g => one l.length 0 (by omega) (by omega) (fun k hk => absurd hk (Nat.not_lt_zero _))⟩
  exact ak_MI_of (Nat.le_of_ble_eq_true rfl) (am_k239_0 (lp S 0 (by omega) (fun t ht => absurd ht (Nat.not_lt_zero _))))
theorem am_s240 {Q : Int → ak_S → Prop} (M : ak_tM S T h) (hS : S ≤ 400) (hT : ∀ s, s < S → (T s).length ≤ 12) (B : ak_bf l h) (hl : l.length ≤ 12) (q1 : ∀ t, t < S → T t = l → Q (t : Int) h)
    (q2 : (∀ t, t < S → T t ≠ l) → S < 400 ∧ ∀ h', ak_tM (S + 1) (ak_Ta S T l) h' → ak_bf l h' → ak_wM h h' → Q (S : Int) h') : ak_MI e 1 (d + 2) ρ 240 [am_r 110] h Q X := by
  refine ak_MI_of (Nat.le_of_ble_eq_true rfl) (am_k240_0 (am_s239 M hS hT B hl (fun t ht he => ⟨fun g => by omega, fun _ => q1 t ht he⟩) (fun no => ⟨fun _ => ?_, fun g => absurd g (by decide)⟩)))
  obtain ⟨hS2, q2⟩ := q2 no
  rw [M.1, B.1, ak_natn]
  refine ⟨by omega, ?_⟩
  have lp : ∀ (c x : Nat) (h1 : ak_S), x + c = l.length → h1.1 110 53 = (S : Int) → (∀ q k, ¬ (147 ≤ q ∧ q ≤ 149) → h1.1 q k = h.1 q k) → h1.2 = h.2 → (∀ s, s < S → h1.1 147 s = h.1 147 s ∧ ∀ k, k < 12 → h1.1 148 (12 * s + k) = h.1 148 (12 * s + k) ∧ h1.1 149 (12 * s + k) = h.1 149 (12 * s + k)) → h1.1 147 S = (l.length : Int) →
      (∀ k y, k < x → l[k]? = some y → h1.1 148 (12 * S + k) = y.1 ∧ h1.1 149 (12 * S + k) = y.2) → ak_W0 e 1 (d + 1) 240 ρ 26 [some (am_r 110), none, some (am_i (x : Int))] [] h1 (ak_qi Q X) := by
    intro c
    induction c with
    | zero =>
      intro x h1 hx a1 a2 a3 a4 a5 a6
      refine am_k240_26 ⟨fun _ => ?_, fun g => ?_⟩
      · rw [a1, ak_wj (show S < 1000000 by omega), show am_w32 (((S + 1 : Nat) : Int) - 1) = (S : Int) from by rw [ak_w _ (by omega)]; omega]
        refine q2 _ ⟨?_, fun s hs => ?_⟩ ⟨?_, fun k y hy => ?_⟩ ⟨fun q k b1 b2 b3 => ?_, a3⟩
        · exact ak_up_at1
        · by_cases hsS : s = S
          · subst hsS
            rw [ak_Ta_eq]
            refine ⟨(ak_up_out1 (by omega)).trans a5, fun k y hy => ?_⟩
            have := a6 k y (by have := ak_get_none hy; omega) hy
            exact ⟨(ak_up_out1 (by omega)).trans this.1, (ak_up_out1 (by omega)).trans this.2⟩
          · rw [ak_Ta_lt (by omega)]
            obtain ⟨m1, m2⟩ := M.2 s (by omega)
            obtain ⟨n1, n2⟩ := a4 s (by omega)
            refine ⟨(ak_up_out1 (by omega)).trans (n1.trans m1), fun k y hy => ?_⟩
            have hk : k < 12 := by have := ak_get_none hy; have := hT s (by omega); omega
            exact ⟨(ak_up_out1 (by omega)).trans ((n2 k hk).1.trans (m2 k y hy).1), (ak_up_out1 (by omega)).trans ((n2 k hk).2.trans (m2 k y hy).2)⟩
        · exact (ak_up_out1 (by omega)).trans ((a2 _ _ (by omega)).trans B.1)
        · exact ⟨(ak_up_out1 (by omega)).trans ((a2 _ _ (by omega)).trans (B.2 k y hy).1), (ak_up_out1 (by omega)).trans ((a2 _ _ (by omega)).trans (B.2 k y hy).2)⟩
        · exact (ak_up_out1 (by omega)).trans (a2 q k b2)
      · rw [a2 110 62 (by omega), B.1] at g; omega
    | succ c ih =>
      intro x h1 hx a1 a2 a3 a4 a5 a6
      have g2 : l[x]? = some l[x] := List.getElem?_eq_getElem (by omega)
      refine am_k240_26 ⟨fun g => ?_, fun _ => ?_⟩
      · rw [a2 110 62 (by omega), B.1] at g; omega
      · rw [a1, ak_w12m (show 12 * S + x < 1000000 by omega), ak_natn, ak_natn, ak_wj (show x < 1000000 by omega), a2 152 x (by omega), a2 153 x (by omega), (B.2 x _ g2).1, (B.2 x _ g2).2]
        have G : ∀ q k, ¬ (q = 148 ∧ k = 12 * S + x) → ¬ (q = 149 ∧ k = 12 * S + x) → am_up (am_up h1.1 148 (12 * S + x) l[x].1) 149 (12 * S + x) l[x].2 q k = h1.1 q k := fun q k a b => (ak_up_out b).trans (ak_up_out a)
        refine ⟨by omega, by omega, by omega, by omega, ih (x + 1) _ (by omega) ?_ (fun q k b => ?_) a3 (fun s hs => ⟨?_, fun k hk => ⟨?_, ?_⟩⟩) ?_ (fun k y hk hy => ?_)⟩
        · exact (G 110 53 (by omega) (by omega)).trans a1
        · exact (G q k (by omega) (by omega)).trans (a2 q k b)
        · exact (G 147 s (by omega) (by omega)).trans (a4 s hs).1
        · exact (G 148 (12 * s + k) (by omega) (by omega)).trans ((a4 s hs).2 k hk).1
        · exact (G 149 (12 * s + k) (by omega) (by omega)).trans ((a4 s hs).2 k hk).2
        · exact (G 147 S (by omega) (by omega)).trans a5
        · by_cases hkx : k = x
          · subst hkx
            rw [g2] at hy
            cases hy
            constructor
            · simp [am_up]
            · simp [am_up]
          · have := a6 k y (by omega) hy
            exact ⟨(G 148 (12 * S + k) (by omega) (by omega)).trans this.1, (G 149 (12 * S + k) (by omega) (by omega)).trans this.2⟩
  refine lp l.length 0 (am_up h.1 147 S (l.length : Int), h.2) (by omega) ((ak_up_out1 (by omega)).trans M.1) (fun q k b => ak_up_out1 (by omega)) rfl (fun s hs => ⟨ak_up_out1 (by omega), fun k hk => ⟨ak_up_out1 (by omega), ak_up_out1 (by omega)⟩⟩) ak_up_at1 (fun k y hk => absurd hk (Nat.not_lt_zero _))
end ASK
