/-! the table of shapes: T tells the items of each, a kind and a what -/
def ak_it (O : Nat) (x : Int × Int) : Prop := 0 ≤ x.1 ∧ x.1 ≤ 2 ∧ (x.1 = 2 → 0 ≤ x.2 ∧ x.2 < (O : Int))
def ak_Tok (S : Nat) (T : Nat → List (Int × Int)) (O : Nat) : Prop := (1 ≤ S ∧ S ≤ 400 ∧ T 0 = []) ∧ (∀ s, s < S → (T s).length ≤ 12 ∧ ∀ x, x ∈ T s → ak_it O x) ∧ (∀ s, 1 ≤ s → s < S → ∃ t x, t < s ∧ T s = T t ++ [x]) ∧ (∀ s t, s < S → t < S → T s = T t → s = t)
def ak_tC (S : Nat) (T : Nat → List (Int × Int)) (h : ak_S) : Prop := h.1 33 4 = (S : Int) ∧ ∀ s, s < S → h.1 37 s = ((T s).length : Int) ∧ (∀ k x, (T s)[k]? = some x → h.1 39 (12 * s + k) = x.1 ∧ h.1 40 (12 * s + k) = x.2) ∧ (∀ t x, t < S → T s = T t ++ [x] → h.1 38 s = (t : Int))
def ak_tM (S : Nat) (T : Nat → List (Int × Int)) (h : ak_S) : Prop := h.1 110 53 = (S : Int) ∧ ∀ s, s < S → h.1 147 s = ((T s).length : Int) ∧ (∀ k x, (T s)[k]? = some x → h.1 148 (12 * s + k) = x.1 ∧ h.1 149 (12 * s + k) = x.2)
def ak_Ta (S : Nat) (T : Nat → List (Int × Int)) (l : List (Int × Int)) : Nat → List (Int × Int) := fun s => if s = S then l else T s
section TBL
variable {S O : Nat} {T : Nat → List (Int × Int)} {hc hm : ak_S}
theorem ak_Ta_eq {l : List (Int × Int)} : ak_Ta S T l S = l := if_pos rfl
theorem ak_Ta_lt {l : List (Int × Int)} {s : Nat} (h : s < S) : ak_Ta S T l s = T s := if_neg (by omega)
theorem ak_Tok_add {t : Nat} {x : Int × Int} (w : ak_Tok S T O) (ht : t < S) (hl : (T t).length < 12) (hx : ak_it O x) (hS : S < 400) (hn : ∀ s, s < S → T s ≠ T t ++ [x]) : ak_Tok (S + 1) (ak_Ta S T (T t ++ [x])) O := by
  obtain ⟨⟨a1, a2, a3⟩, b, c, dd⟩ := w
  refine ⟨⟨by omega, by omega, by rw [ak_Ta_lt (by omega)]; exact a3⟩, fun s hs => ?_, fun s h1 hs => ?_, fun s s' hs hs' he => ?_⟩
  · by_cases h : s = S
    · subst h
      rw [ak_Ta_eq]
      refine ⟨by rw [List.length_append]; simp; omega, fun y hy => ?_⟩
      rcases List.mem_append.mp hy with hy | hy
      · exact (b t ht).2 y hy
      · rw [List.mem_singleton] at hy
        rw [hy]; exact hx
    · rw [ak_Ta_lt (by omega)]; exact b s (by omega)
  · by_cases h : s = S
    · subst h
      exact ⟨t, x, ht, by rw [ak_Ta_eq, ak_Ta_lt ht]⟩
    · obtain ⟨t', x', h2, h3⟩ := c s h1 (by omega)
      exact ⟨t', x', h2, by rw [ak_Ta_lt (by omega), ak_Ta_lt (by omega)]; exact h3⟩
  · by_cases h : s = S
    · by_cases h' : s' = S
      · omega
      · rw [h, ak_Ta_eq, ak_Ta_lt (by omega)] at he
        exact absurd he.symm (hn s' (by omega))
    · by_cases h' : s' = S
      · rw [h', ak_Ta_eq, ak_Ta_lt (by omega)] at he
        exact absurd he (hn s (by omega))
      · rw [ak_Ta_lt (by omega), ak_Ta_lt (by omega)] at he
        exact dd s s' (by omega) (by omega) he
/-- the beginnings of a shape are shapes -/
theorem ak_Tok_take (w : ak_Tok S T O) : ∀ (s : Nat), s < S → ∀ k, k ≤ (T s).length → ∃ t, t ≤ s ∧ T t = (T s).take k := by
  intro s
  induction s using Nat.strongRecOn with
  | ind s ih =>
    intro hs k hk
    by_cases h : k = (T s).length
    · exact ⟨s, Nat.le_refl _, by rw [h, List.take_length]⟩
    · have h1 : 1 ≤ s := by
        by_cases h0 : s = 0
        · subst h0
          rw [w.1.2.2] at hk h
          simp at hk
          exact absurd hk h
        · omega
      obtain ⟨t, x, ht, e⟩ := w.2.2.1 s h1 hs
      have hl : (T s).length = (T t).length + 1 := by rw [e, List.length_append]; rfl
      obtain ⟨t', h2, h3⟩ := ih t ht (by omega) k (by omega)
      exact ⟨t', by omega, by rw [h3, e, List.take_append_of_le_length (by omega)]⟩
theorem ak_snoc_inj {α : Type} {l l' : List α} {x x' : α} (h : l ++ [x] = l' ++ [x']) : l = l' ∧ x = x' := by
  have := List.append_inj' h rfl
  exact ⟨this.1, by simpa using this.2⟩
theorem ak_get_snoc {α : Type} {l : List α} {x : α} : (l ++ [x])[l.length]? = some x := by simp
theorem ak_get_snoc_lt {α : Type} {l : List α} {x : α} {k : Nat} (h : k < l.length) : (l ++ [x])[k]? = l[k]? := List.getElem?_append_left h
theorem ak_get_none {α : Type} {l : List α} {k : Nat} {x : α} (h : l[k]? = some x) : k < l.length := by
  rcases Nat.lt_or_ge k l.length with h1 | h1
  · exact h1
  · rw [List.getElem?_eq_none h1] at h
    cases h
end TBL
section LNG
variable {e : ak_X3} {d S O s : Nat} {ρ : List Nat} {T : Nat → List (Int × Int)} {hc hm h : ak_S} {Q : Int → ak_S → Prop} {X : Nat → ak_S → Prop} {kd wt : Int}
theorem am_s159 (W : ak_Tok S T O) (C : ak_tC S T h) (hs : s < S) (q1 : ∀ t, t < S → T t = T s ++ [(kd, wt)] → Q (t : Int) h) (q2 : (∀ t, t < S → T t ≠ T s ++ [(kd, wt)]) → Q (-1) h) :
    ak_MI e 0 (d + 1) ρ 159 [am_r 33, am_i (s : Int), am_i kd, am_i wt] h Q X := by
  have hS := W.1.2.1
  have hn := (C.2 s hs).1
  have hn2 := (W.2.1 s hs).1
  have lp : ∀ (c x : Nat), x + c = S → s < x → (∀ t, t < x → T t ≠ T s ++ [(kd, wt)]) → (T s).length < 12 →
      ak_W0 e 0 d 159 ρ 22 [some (am_r 33), some (am_i (s : Int)), some (am_i kd), some (am_i wt), some (am_i ((T s).length : Int)), some (am_i (x : Int))] [] h (ak_qi Q X) := by
    intro c
    induction c with
    | zero =>
      intro x hx _ no _
      refine am_k159_22 ⟨fun _ => q2 (fun t ht => no t (by omega)), fun g => ?_⟩
      rw [C.1] at g; omega
    | succ c ih =>
      intro x hx hsx no hl
      have hxS : x < S := by omega
      obtain ⟨c1, c2, c3⟩ := C.2 x hxS
      obtain ⟨t, y, ht, ey⟩ := W.2.2.1 x (by omega) hxS
      have hb := c3 t y (by omega) ey
      have next : T x ≠ T s ++ [(kd, wt)] → ak_W0 e 0 d 159 ρ 22 [some (am_r 33), some (am_i (s : Int)), some (am_i kd), some (am_i wt), some (am_i ((T s).length : Int)), some (am_i ((x + 1 : Nat) : Int))] [] h (ak_qi Q X) := fun hne =>
        ih (x + 1) (by omega) (by omega) (fun t ht => by
          by_cases h : t = x
          · rw [h]; exact hne
          · exact no t (by omega)) hl
      refine am_k159_22 ⟨fun g => ?_, fun _ => ?_⟩
      · rw [C.1] at g; omega
      · rw [ak_natn, ak_wj (show x < 1000000 by omega), hb]
        refine ⟨by omega, fun g => next (fun he => ?_), fun g => ?_⟩
        · have := (ak_snoc_inj (ey.symm.trans he)).1
          exact g (congrArg Nat.cast (W.2.2.2 t s (by omega) hs this))
        · have ets : t = s := by omega
          subst ets
          have gy := c2 (T t).length y (by rw [ey]; exact ak_get_snoc)
          rw [show am_w32 (am_w32 ((x : Int) * 12) + ((T t).length : Int)) = ((12 * x + (T t).length : Nat) : Int) from by rw [ak_w ((x : Int) * 12) (by omega), ak_w _ (by omega)]; omega, ak_natn, gy.1, gy.2]
          have b1 : 0 ≤ ((12 * x + (T t).length : Nat) : Int) ∧ ((12 * x + (T t).length : Nat) : Int) < 4800 := by omega
          refine ⟨b1, fun g1 => next (fun he => ?_), fun g1 => ⟨b1, fun g2 => next (fun he => ?_), fun g2 => q1 x hxS ?_⟩⟩
          · have := (ak_snoc_inj (ey.symm.trans he)).2
            exact g1 (by rw [this])
          · have := (ak_snoc_inj (ey.symm.trans he)).2
            exact g2 (by rw [this])
          · rw [ey]
            congr
            exact Prod.ext g1 g2
  have low : ∀ t, t < s + 1 → T t ≠ T s ++ [(kd, wt)] := by
    intro t ht he
    have h1 : t ≠ 0 := by
      intro h0
      subst h0
      rw [W.1.2.2] at he
      simp at he
    obtain ⟨t', y, h2, h3⟩ := W.2.2.1 t (by omega) (by omega)
    have := W.2.2.2 t' s (by omega) hs (ak_snoc_inj (h3.symm.trans he)).1
    omega
  refine ak_MI_of (Nat.le_of_ble_eq_true rfl) (am_k159_0 ⟨by omega, ?_⟩)
  rw [ak_natn, hn, ak_wj (show s < 1000000 by omega)]
  refine ⟨fun g => lp (S - (s + 1)) (s + 1) (by omega) (by omega) low (by omega), fun g => q2 (fun t ht he => ?_)⟩
  have := (W.2.1 t ht).1
  rw [he, List.length_append] at this
  simp at this
  omega
/-- what making a shape changes of the one -/
def ak_wC (hc hc' : ak_S) : Prop := (∀ q k, ¬ (q = 33 ∧ k = 4) → ¬ (37 ≤ q ∧ q ≤ 40) → hc'.1 q k = hc.1 q k) ∧ hc'.2 = hc.2
theorem ak_wC_refl : ak_wC hc hc := ⟨fun _ _ _ _ => rfl, rfl⟩
theorem ak_wC_trans {h2 : ak_S} (w : ak_wC hc hm) (w2 : ak_wC hm h2) : ak_wC hc h2 := ⟨fun q k a b => (w2.1 q k a b).trans (w.1 q k a b), w2.2.trans w.2⟩
theorem am_s160 (W : ak_Tok S T O) (C : ak_tC S T h) (hs : s < S) (hS : S < 400) (hl : (T s).length < 12) (no : ∀ t, t < S → T t ≠ T s ++ [(kd, wt)])
    (q : ∀ h', ak_tC (S + 1) (ak_Ta S T (T s ++ [(kd, wt)])) h' → ak_wC h h' → Q (S : Int) h') : ak_MI e 0 (d + 1) ρ 160 [am_r 33, am_i (s : Int), am_i kd, am_i wt] h Q X := by
  have hn := (C.2 s hs).1
  refine ak_MI_of (Nat.le_of_ble_eq_true rfl) (am_k160_0 ⟨by omega, fun g => ?_, fun _ => ?_⟩)
  · rw [C.1] at g; omega
  · rw [ak_natn, hn, C.1]
    refine ⟨fun _ => ?_, fun g => by omega⟩
    rw [show am_w32 ((s : Int) * 12) = ((12 * s : Nat) : Int) from by rw [ak_w _ (by omega)]; omega, show am_w32 ((S : Int) * 12) = ((12 * S : Nat) : Int) from by rw [ak_w _ (by omega)]; omega,
      show am_w32 (((12 * S : Nat) : Int) + ((T s).length : Int)) = ((12 * S + (T s).length : Nat) : Int) from by rw [ak_w _ (by omega)]; omega, ak_natn, ak_natn, ak_natn, ak_natn, ak_wj (show S < 1000000 by omega), ak_wj (show (T s).length < 1000000 by omega)]
    refine ⟨by omega, by omega, by omega, by omega, by omega, by omega, ?_⟩
    generalize hG : am_up (am_up (am_up (am_up (am_cpy (am_cpy (am_up h.1 33 4 ((S + 1 : Nat) : Int)) 39 39 (12 * s) (12 * S) 12) 40 40 (12 * s) (12 * S) 12) 39 (12 * S + (T s).length) kd) 40 (12 * S + (T s).length) wt) 37 S (((T s).length + 1 : Nat) : Int)) 38 S (s : Int) = G
    have g37 : ∀ k, G 37 k = if k = S then (((T s).length + 1 : Nat) : Int) else h.1 37 k := by
      intro k; rw [← hG]; simp [am_up, am_cpy]
    have g38 : ∀ k, G 38 k = if k = S then (s : Int) else h.1 38 k := by
      intro k; rw [← hG]; simp [am_up, am_cpy]
    have g39 : ∀ k, G 39 k = if k = 12 * S + (T s).length then kd else if 12 * S ≤ k ∧ k < 12 * S + 12 then h.1 39 (12 * s + (k - 12 * S)) else h.1 39 k := by
      intro k; rw [← hG]; simp [am_up, am_cpy]
    have g40 : ∀ k, G 40 k = if k = 12 * S + (T s).length then wt else if 12 * S ≤ k ∧ k < 12 * S + 12 then h.1 40 (12 * s + (k - 12 * S)) else h.1 40 k := by
      intro k; rw [← hG]; simp [am_up, am_cpy]
    have g33 : G 33 4 = ((S + 1 : Nat) : Int) := by rw [← hG]; simp [am_up, am_cpy]
    refine q (G, h.2) ⟨g33, fun t ht => ?_⟩ ⟨fun q k a1 a2 => ?_, rfl⟩
    · by_cases hts : t = S
      · subst hts
        rw [ak_Ta_eq]
        refine ⟨?_, fun k x hx => ?_, fun t' x ht' he => ?_⟩
        · show G 37 t = _
          rw [g37, if_pos rfl, List.length_append]; rfl
        · show G 39 _ = _ ∧ G 40 _ = _
          rw [g39, g40]
          have hk := ak_get_none hx
          rw [List.length_append] at hk
          simp at hk
          by_cases hkl : k = (T s).length
          · subst hkl
            rw [ak_get_snoc] at hx
            cases hx
            rw [if_pos rfl, if_pos rfl]
            exact ⟨rfl, rfl⟩
          · rw [if_neg (by omega), if_pos (by omega), if_neg (by omega), if_pos (by omega), show 12 * s + (12 * t + k - 12 * t) = 12 * s + k by omega]
            rw [ak_get_snoc_lt (by omega)] at hx
            exact (C.2 s hs).2.1 k x hx
        · show G 38 t = _
          rw [g38, if_pos rfl]
          by_cases ht2 : t' = t
          · subst ht2
            rw [ak_Ta_eq] at he
            have := congrArg List.length he
            simp at this
          · rw [ak_Ta_lt (by omega)] at he
            rw [W.2.2.2 t' s (by omega) hs (ak_snoc_inj he).1.symm]
      · rw [ak_Ta_lt (by omega)]
        obtain ⟨c1, c2, c3⟩ := C.2 t (by omega)
        refine ⟨?_, fun k x hx => ?_, fun t' x ht' he => ?_⟩
        · show G 37 t = _
          rw [g37, if_neg hts]; exact c1
        · show G 39 _ = _ ∧ G 40 _ = _
          have hk := ak_get_none hx
          have := (W.2.1 t (by omega)).1
          rw [g39, g40, if_neg (by omega), if_neg (by omega), if_neg (by omega), if_neg (by omega)]
          exact c2 k x hx
        · show G 38 t = _
          rw [g38, if_neg hts]
          by_cases ht2 : t' = S
          · subst ht2
            rw [ak_Ta_eq] at he
            obtain ⟨t2, k2, h1⟩ := ak_Tok_take W t (by omega) ((T s).length + 1) (by rw [he]; simp)
            rw [he, List.take_append_of_le_length (by simp), List.take_of_length_le (by simp)] at h1
            exact absurd h1 (no t2 (by omega))
          · rw [ak_Ta_lt (by omega)] at he
            exact c3 t' x (by omega) he
    · show G q k = _
      rw [← hG]
      unfold am_up am_cpy
      have n1 : ¬ q = 37 := by omega
      have n2 : ¬ q = 38 := by omega
      have n3 : ¬ q = 39 := by omega
      have n4 : ¬ q = 40 := by omega
      rw [if_neg n2, if_neg n1, if_neg n4, if_neg n3, if_neg n4, if_neg n3]
      dsimp only
      by_cases hq : q = 33
      · rw [if_pos hq, if_neg (fun z => a1 ⟨hq, z⟩)]
      · rw [if_neg hq]
end LNG
