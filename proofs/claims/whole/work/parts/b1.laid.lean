/-! the other has the way of a shape laid -/
def ak_vn : Nat → Bool := fun _ => false
def ak_Wy (T : Nat → List (Int × Int)) (sh : Nat → Nat) (O s : Nat) : List Nat := ak_W T sh O [T s] ak_vn
def ak_ly (S O : Nat) (T : Nat → List (Int × Int)) (sh : Nat → Nat) (h : ak_S) : Prop := ∃ w, ak_wyS h w ∧ (h.1 110 67 = -1 ∨ ∃ s, s < S ∧ h.1 110 67 = (s : Int) ∧ w = ak_Wy T sh O s)
section LAID
variable {e : ak_X3} {d S O : Nat} {ρ : List Nat} {T : Nat → List (Int × Int)} {sh : Nat → Nat} {h h' h2 : ak_S} {v : Nat → Bool} {X : Nat → ak_S → Prop} {w : List Nat}
theorem ak_wyM_S (L : ak_wyM O h w v) (hO : O ≤ 200) : ak_wyS h w := by
  obtain ⟨l1, l2, l3, l4, l5⟩ := L
  refine ⟨l1, by omega, fun k o hk => ⟨(l2 k o hk).1, by have := (l2 k o hk).2; omega⟩, fun x hx => ?_⟩
  rw [l3 x hx]
  cases hv : v x with
  | true => exact Or.inr ⟨rfl, l4 x hv⟩
  | false => exact Or.inl rfl
theorem ak_ob_ly {o : Nat} {l : List (Int × Int)} (w : ak_ob l o h) (f : ak_lyF h h') : ak_ob l o h' := by
  refine ⟨(f.1 _ _ (by omega) (by omega)).trans w.1, fun k x hx => ?_⟩
  rw [f.1 143 _ (by omega) (by omega), f.1 144 _ (by omega) (by omega)]
  exact w.2 k x hx
theorem am_s248 {Q : ak_S → Prop} {s : Nat} (W : ak_Tok S T O) (hO : O ≤ 200) (M : ak_tM S T h) (hob : ∀ o, o < O → sh o < S ∧ ak_ob (T (sh o)) o h) (L : ak_ly S O T sh h) (hs : s < S)
    (q : ∀ h', ak_wyS h' (ak_Wy T sh O s) → h'.1 110 67 = (s : Int) → ak_lyF h h' → Q h') : ak_MV e 1 (d + 3) ρ 248 [am_r 110, am_i (s : Int)] h Q X := by
  have hs' : ∀ o, o < O → sh o < S := fun o h => (hob o h).1
  have hS := W.1.2.1
  obtain ⟨w0, L0, L67⟩ := L
  have sokT : ak_sok O [T s] := fun l hl => by
    rw [List.mem_singleton] at hl
    rw [hl]
    exact W.2.1 s hs
  have sokd : ∀ k, ak_sok O [(T s).drop k] := fun k l hl => by
    rw [List.mem_singleton] at hl
    rw [hl]
    have := W.2.1 s hs
    exact ⟨by rw [List.length_drop]; omega, fun x hx => this.2 x (List.mem_of_mem_drop hx)⟩
  -- the parents of the shape, one behind another
  have items : ∀ (c k : Nat) (h1 : ak_S) (w : List Nat) (v : Nat → Bool), k + c = (T s).length → ak_wyM O h1 w v → w ++ ak_W T sh O [(T s).drop k] v = ak_Wy T sh O s → ak_lyF h h1 → h1.1 110 67 = (s : Int) →
      ak_W0 e 1 (d + 2) 248 ρ 49 [some (am_r 110), some (am_i (s : Int)), some (am_i (k : Int))] [] h1 (ak_qv Q X) := by
    intro c
    induction c with
    | zero =>
      intro k h1 w v hk L1 eq f h67
      have e147 : h1.1 147 s = ((T s).length : Int) := (f.1 _ _ (by omega) (by omega)).trans (M.2 s hs).1
      refine am_k248_49 ⟨by omega, fun _ => ?_, fun g => ?_⟩
      · rw [List.drop_eq_nil_of_le (by omega), ak_W_pop W hs' (fun l hl => by rw [List.mem_singleton] at hl; rw [hl]; exact ⟨Nat.zero_le _, fun x hx => absurd hx (by simp)⟩), ak_W_nil, List.append_nil] at eq
        rw [← eq] at q
        exact q h1 (ak_wyM_S L1 hO) h67 f
      · rw [ak_natn, e147] at g; omega
    | succ c ih =>
      intro k h1 w v hk L1 eq f h67
      have e147 : h1.1 147 s = ((T s).length : Int) := (f.1 _ _ (by omega) (by omega)).trans (M.2 s hs).1
      have hi : k < (T s).length := by omega
      have hl := (W.2.1 s hs).1
      have hx := List.getElem?_eq_getElem hi
      have c1 : h1.1 148 (12 * s + k) = ((T s)[k]).1 := (f.1 _ _ (by omega) (by omega)).trans ((M.2 s hs).2 k _ hx).1
      have c2 : h1.1 149 (12 * s + k) = ((T s)[k]).2 := (f.1 _ _ (by omega) (by omega)).trans ((M.2 s hs).2 k _ hx).2
      have sok := sokd k
      rw [List.drop_eq_getElem_cons hi] at eq sok
      generalize (T s)[k] = y at c1 c2 eq sok hx
      refine am_k248_49 ⟨by omega, fun g => ?_, fun _ => ?_⟩
      · rw [ak_natn, e147] at g; omega
      · rw [ak_w12m (show 12 * s + k < 1000000 by omega), ak_natn, c1, c2, ak_wj (show k < 1000000 by omega)]
        refine ⟨by omega, fun g => ?_, fun g => ⟨by omega, ?_⟩⟩
        · rw [ak_W_skip W hs' sok (fun z => g z.1)] at eq
          exact ih (k + 1) h1 w v (by omega) L1 eq f h67
        · -- what a visit does to laid is not told by the frame
          have hob1 : ∀ o, o < O → sh o < S ∧ ak_ob (T (sh o)) o h1 := fun o ho => ⟨(hob o ho).1, ak_ob_ly (hob o ho).2 f⟩
          refine am_s249 (d := d) W hO hob1 L1 sok g (fun h2 w2 v2 L2 eq2 f2 k67 => ?_)
          exact ih (k + 1) h2 w2 v2 (by omega) L2 (eq2.trans eq) (ak_lyF_trans f f2) (k67.trans h67)
  -- the marks of the last are wiped out
  have clear : ∀ (c i : Nat) (h1 : ak_S), i + c = w0.length → h1.1 110 64 = (w0.length : Int) → (∀ k o : Nat, w0[k]? = some o → h1.1 154 k = (o : Int) ∧ o < 200) → (∀ x, x < 200 → h1.1 157 x = 0 ∨ (h1.1 157 x = 1 ∧ x ∈ w0.drop i)) → ak_lyF h h1 → h1.1 110 67 = (s : Int) →
      ak_W0 e 1 (d + 2) 248 ρ 16 [some (am_r 110), some (am_i (s : Int)), some (am_i (i : Int))] [] h1 (ak_qv Q X) := by
    intro c
    induction c with
    | zero =>
      intro i h1 hi a1 a2 a3 f h67
      refine am_k248_16 ⟨fun _ => ?_, fun g => ?_⟩
      · have G : ∀ q k, ¬ (q = 110 ∧ k = 64) → am_up h1.1 110 64 0 q k = h1.1 q k := fun q k a => ak_up_out a
        refine items (T s).length 0 (am_up h1.1 110 64 0, h1.2) [] ak_vn (by omega) ⟨ak_up_at1, fun k o hk => by simp at hk, fun x hx => ?_, fun x hx => absurd hx (by unfold ak_vn; decide), ?_⟩ rfl ⟨fun q k a b => (G q k (by omega)).trans (f.1 q k a b), f.2⟩ ((G 110 67 (by omega)).trans h67)
        · refine (G 157 x (by omega)).trans ?_
          rcases a3 x hx with g | g
          · rw [g]; rfl
          · rw [List.drop_eq_nil_of_le (by omega)] at g
            exact absurd g.2 (by simp)
        · show 0 + ak_un ak_vn O = O
          have := ak_un_none O
          unfold ak_vn
          omega
      · rw [a1] at g; omega
    | succ c ih =>
      intro i h1 hi a1 a2 a3 f h67
      have hl := L0.2.1
      have hx := List.getElem?_eq_getElem (show i < w0.length by omega)
      obtain ⟨b1, b2⟩ := a2 i _ hx
      have ed : w0.drop i = w0[i] :: w0.drop (i + 1) := List.drop_eq_getElem_cons (by omega)
      generalize w0[i] = o at b1 b2 ed hx
      refine am_k248_16 ⟨fun g => ?_, fun _ => ?_⟩
      · rw [a1] at g; omega
      · rw [ak_natn, b1, ak_natn, ak_wj (show i < 1000000 by omega)]
        have G : ∀ q k, ¬ (q = 157 ∧ k = o) → am_up h1.1 157 o 0 q k = h1.1 q k := fun q k a => ak_up_out a
        refine ⟨by omega, ⟨by omega, Or.inl rfl⟩, ih (i + 1) (am_up h1.1 157 o 0, h1.2) (by omega) ((G 110 64 (by omega)).trans a1) (fun k o hk => ⟨(G 154 k (by omega)).trans (a2 k o hk).1, (a2 k o hk).2⟩) (fun x hx => ?_) ⟨fun q k a b => (G q k (by omega)).trans (f.1 q k a b), f.2⟩ ((G 110 67 (by omega)).trans h67)⟩
        show am_up h1.1 157 o 0 157 x = 0 ∨ _
        by_cases hxo : x = o
        · subst hxo
          exact Or.inl (by simp [am_up])
        · have e1 : am_up h1.1 157 o 0 157 x = h1.1 157 x := G 157 x (by omega)
          rcases a3 x hx with g | g
          · exact Or.inl (e1.trans g)
          · rw [ed] at g
            rcases List.mem_cons.mp g.2 with g2 | g2
            · exact absurd g2 hxo
            · exact Or.inr ⟨e1.trans g.1, g2⟩
  refine ak_MV_of (Nat.le_of_ble_eq_true rfl) (am_k248_0 ⟨fun _ => ?_, fun g => ?_⟩)
  · have G : ∀ q k, ¬ (q = 110 ∧ k = 67) → am_up h.1 110 67 (s : Int) q k = h.1 q k := fun q k a => ak_up_out a
    exact clear w0.length 0 (am_up h.1 110 67 (s : Int), h.2) (by omega) ((G _ _ (by omega)).trans L0.1) (fun k o hk => ⟨(G 154 k (by omega)).trans (L0.2.2.1 k o hk).1, (L0.2.2.1 k o hk).2⟩) (fun x hx => by
      rcases L0.2.2.2 x hx with g | g
      · exact Or.inl ((G 157 x (by omega)).trans g)
      · exact Or.inr ⟨(G 157 x (by omega)).trans g.1, g.2⟩) ⟨fun q k a b => G q k (by omega), rfl⟩ ak_up_at1
  · rcases L67 with g2 | ⟨s', g1, g2, g3⟩
    · omega
    · have : s' = s := by omega
      subst this
      subst g3
      exact q h L0 g ak_lyF_refl
end LAID
