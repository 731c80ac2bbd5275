/-! the other's entries: does one rest on an object, note it, move it -/
def ak_eM (h : ak_S) (r : Nat) (en : ak_E) : Prop := h.1 164 r = (en.1 : Int) ∧ h.1 165 r = en.2.1 ∧ h.1 166 r = en.2.2.1 ∧ h.1 167 r = en.2.2.2.1 ∧ h.1 168 r = en.2.2.2.2
def ak_gM (first : Nat) (E : List ak_E) (h : ak_S) : Prop := ∀ (k : Nat) (en : ak_E), E[k]? = some en → ak_eM h (first + k) en
def ak_gnM (G : List (Int × Int × Int × Int)) (h : ak_S) : Prop := h.1 110 84 = (G.length : Int) ∧ ∀ (j : Nat) (g : Int × Int × Int × Int), G[j]? = some g → h.1 169 j = g.1 ∧ h.1 170 j = g.2.1 ∧ h.1 171 j = g.2.2.1 ∧ h.1 172 j = g.2.2.2
/-- the objects that an entry rests on -/
def ak_er (T : Nat → List (Int × Int)) (sh : Nat → Nat) (O : Nat) (en : ak_E) : List Nat := ak_rst (ak_Wy T sh O en.1) en.2.2.2.1
def ak_eok (S O : Nat) (T : Nat → List (Int × Int)) (sh : Nat → Nat) (en : ak_E) : Prop := en.1 < S ∧ ((-1 ≤ en.2.2.1 ∧ en.2.2.1 ≤ 200) ∧ en.2.2.2 = ak_lu T sh O en.1 en.2.1 en.2.2.1) ∧ en.2.2.2.1 ≤ ((ak_Wy T sh O en.1).length : Int)
section MREST
variable {e : ak_X3} {d S O o first : Nat} {ρ : List Nat} {T : Nat → List (Int × Int)} {sh : Nat → Nat} {h h' h2 : ak_S} {E : List ak_E} {G : List (Int × Int × Int × Int)} {X : Nat → ak_S → Prop} {en : ak_E} {r : Nat}
theorem ak_eM_fr (w : ak_eM h r en) (f : ∀ q, 164 ≤ q → q ≤ 168 → h'.1 q r = h.1 q r) : ak_eM h' r en := ⟨(f _ (by omega) (by omega)).trans w.1, (f _ (by omega) (by omega)).trans w.2.1, (f _ (by omega) (by omega)).trans w.2.2.1, (f _ (by omega) (by omega)).trans w.2.2.2.1, (f _ (by omega) (by omega)).trans w.2.2.2.2⟩
theorem am_s253 {Q : Int → ak_S → Prop} (W : ak_Tok S T O) (hO : O ≤ 200) (M : ak_tM S T h) (hob : ∀ o, o < O → sh o < S ∧ ak_ob (T (sh o)) o h) (L : ak_ly S O T sh h) (N : ak_eM h r en) (K : ak_eok S O T sh en) (hr : r < 728)
    (q : ∀ h', ak_ly S O T sh h' → ak_lyF h h' → Q (if o ∈ ak_er T sh O en then 1 else 0) h') : ak_MI e 1 (d + 4) ρ 253 [am_r 110, am_i (r : Int), am_i (o : Int)] h Q X := by
  obtain ⟨n1, n2, n3, n4, n5⟩ := N
  refine ak_MI_of (Nat.le_of_ble_eq_true rfl) (am_k253_0 ?_)
  rw [ak_natn, n4, n1]
  refine ⟨by omega, fun g => ⟨by omega, ?_⟩, fun g => ⟨Or.inl rfl, ?_⟩⟩
  · refine am_s248 (d := d) W hO M hob L K.1 (fun h1 L1 h67 f1 => ?_)
    have LY : ak_ly S O T sh h1 := ⟨_, L1, Or.inr ⟨en.1, K.1, h67, rfl⟩⟩
    have n4' : h1.1 167 r = en.2.2.2.1 := (f1.1 _ _ (by omega) (by omega)).trans n4
    have q' := q h1 LY f1
    have hl := L1.2.1
    -- the search among the first n of the way
    have lp : ∀ (n : Nat), n ≤ (ak_Wy T sh O en.1).length → (ak_er T sh O en = (ak_Wy T sh O en.1).take n) → ∀ (c j : Nat), j + c = n → o ∉ (ak_Wy T sh O en.1).take j → ak_W0 e 1 (d + 3) 253 ρ 47 [some (am_r 110), none, some (am_i (o : Int)), some (am_i (n : Int)), some (am_i (j : Int))] [] h1 (ak_qi Q X) := by
      intro n hn er c
      rw [er] at q'
      induction c with
      | zero =>
        intro j hj no
        have : j = n := by omega
        subst this
        rw [if_neg no] at q'
        exact am_k253_47 ⟨fun _ => ⟨Or.inl rfl, q'⟩, fun g => by omega⟩
      | succ c ih =>
        intro j hj no
        have hx := List.getElem?_eq_getElem (show j < (ak_Wy T sh O en.1).length by omega)
        obtain ⟨b1, b2⟩ := L1.2.2.1 j _ hx
        have tk : (ak_Wy T sh O en.1).take (j + 1) = (ak_Wy T sh O en.1).take j ++ [(ak_Wy T sh O en.1)[j]] := by rw [List.take_add_one, hx]; rfl
        generalize (ak_Wy T sh O en.1)[j] = o' at b1 b2 hx tk
        refine am_k253_47 ⟨fun g => by omega, fun _ => ⟨by omega, ?_⟩⟩
        rw [ak_natn, b1, ak_wj (show j < 1000000 by omega)]
        refine ⟨fun g => ih (j + 1) (by omega) (fun z => ?_), fun g => ⟨Or.inr rfl, ?_⟩⟩
        · rw [tk, List.mem_append, List.mem_singleton] at z
          rcases z with z | z
          · exact no z
          · exact g (by rw [z])
        · have ho : o' = o := by omega
          have hin : o ∈ (ak_Wy T sh O en.1).take n := by
            have : o ∈ (ak_Wy T sh O en.1).take (j + 1) := by rw [tk, ho]; simp
            exact List.mem_of_mem_take (by rw [List.take_take, show min (j + 1) n = j + 1 by omega]; exact this)
          rw [if_pos hin] at q'
          exact q'
    rw [n4']
    refine ⟨by omega, fun g => ⟨by omega, ?_⟩, fun g => ?_⟩
    · have hp := K.2.2
      have := lp en.2.2.2.1.toNat (by omega) (by unfold ak_er ak_rst; rw [if_neg (by omega)]) en.2.2.2.1.toNat 0 (by omega) (by simp)
      rw [show ((en.2.2.2.1.toNat : Nat) : Int) = en.2.2.2.1 by omega] at this
      exact this
    · rw [L1.1]
      exact lp _ (Nat.le_refl _) (by unfold ak_er ak_rst; rw [if_pos g, List.take_length]) _ 0 (Nat.zero_add _) (by simp)
  · have q' := q h L ak_lyF_refl
    have : ak_er T sh O en = [] := by unfold ak_er ak_rst; rw [g, if_neg (by decide)]; rfl
    rw [this, if_neg (by simp)] at q'
    exact q'
theorem am_s254 {Q : ak_S → Prop} {site : Int} (N : ak_eM h r en) (g : ak_gnM G h) (hG : G.length < 728) (hr : r < 728) (q : ∀ h', ak_gnM (G ++ [ak_gg site en]) h' → (∀ q k, ¬ (169 ≤ q ∧ q ≤ 172) → ¬ (q = 110 ∧ k = 84) → h'.1 q k = h.1 q k) → h'.2 = h.2 → Q h') :
    ak_MV e 1 (d + 1) ρ 254 [am_r 110, am_i (r : Int), am_i site] h Q X := by
  obtain ⟨n1, n2, n3, n4, n5⟩ := N
  refine ak_MV_of (Nat.le_of_ble_eq_true rfl) (am_k254_0 ?_)
  rw [g.1, ak_natn, ak_natn, n1, n2, n3, ak_wj (show G.length < 1000000 by omega)]
  have F : ∀ q k, ¬ (169 ≤ q ∧ q ≤ 172 ∧ k = G.length) → ¬ (q = 110 ∧ k = 84) → am_up (am_up (am_up (am_up (am_up h.1 169 G.length site) 170 G.length (en.1 : Int)) 171 G.length en.2.1) 172 G.length en.2.2.1) 110 84 ((G.length + 1 : Nat) : Int) q k = h.1 q k := fun q k a b => (ak_up_out (by omega)).trans ((ak_up_out (by omega)).trans ((ak_up_out (by omega)).trans ((ak_up_out (by omega)).trans (ak_up_out (by omega)))))
  refine ⟨by omega, by omega, by omega, by omega, by omega, by omega, by omega, q (am_up (am_up (am_up (am_up (am_up h.1 169 G.length site) 170 G.length (en.1 : Int)) 171 G.length en.2.1) 172 G.length en.2.2.1) 110 84 ((G.length + 1 : Nat) : Int), h.2) ⟨?_, fun j x hx => ?_⟩ (fun q k a b => F q k (by omega) b) rfl⟩
  · refine ak_up_at1.trans ?_
    rw [List.length_append]; rfl
  · by_cases hj : j = G.length
    · subst hj
      rw [ak_get_snoc] at hx
      cases hx
      refine ⟨?_, ?_, ?_, ?_⟩ <;> simp [am_up, ak_gg]
    · have hj2 := ak_get_none hx
      rw [List.length_append] at hj2
      simp at hj2
      rw [ak_get_snoc_lt (by omega)] at hx
      have z := g.2 j x hx
      exact ⟨(F 169 j (by omega) (by omega)).trans z.1, (F 170 j (by omega) (by omega)).trans z.2.1, (F 171 j (by omega) (by omega)).trans z.2.2.1, (F 172 j (by omega) (by omega)).trans z.2.2.2⟩
theorem am_s255 {Q : ak_S → Prop} {r2 : Nat} (N : ak_eM h r en) (hr : r < 728) (hr2 : r2 < 728) (q : ∀ h', ak_eM h' r2 en → (∀ q k, ¬ (164 ≤ q ∧ q ≤ 168 ∧ k = r2) → h'.1 q k = h.1 q k) → h'.2 = h.2 → Q h') :
    ak_MV e 1 (d + 1) ρ 255 [am_r 110, am_i (r : Int), am_i (r2 : Int)] h Q X := by
  obtain ⟨n1, n2, n3, n4, n5⟩ := N
  refine ak_MV_of (Nat.le_of_ble_eq_true rfl) (am_k255_0 ?_)
  rw [ak_natn, ak_natn, n1, n2, n3, n4, n5]
  have F : ∀ q k, ¬ (164 ≤ q ∧ q ≤ 168 ∧ k = r2) → am_up (am_up (am_up (am_up (am_up h.1 164 r2 (en.1 : Int)) 165 r2 en.2.1) 166 r2 en.2.2.1) 167 r2 en.2.2.2.1) 168 r2 en.2.2.2.2 q k = h.1 q k := fun q k a => (ak_up_out (by omega)).trans ((ak_up_out (by omega)).trans ((ak_up_out (by omega)).trans ((ak_up_out (by omega)).trans (ak_up_out (by omega)))))
  refine ⟨by omega, by omega, by omega, by omega, by omega, by omega, by omega, by omega, by omega, by omega, q (am_up (am_up (am_up (am_up (am_up h.1 164 r2 (en.1 : Int)) 165 r2 en.2.1) 166 r2 en.2.2.1) 167 r2 en.2.2.2.1) 168 r2 en.2.2.2.2, h.2) ⟨?_, ?_, ?_, ?_, ?_⟩ F rfl⟩ <;> simp [am_up]
end MREST
