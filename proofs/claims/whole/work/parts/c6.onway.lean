/-! the k-th object of a way, of the one -/
def ak_at (wl : List Nat) (i : Nat) : Int := match wl[i]? with
  | some o => (o : Int)
  | none => -1
section ONW
variable {e : ak_X3} {d S O : Nat} {ρ : List Nat} {T : Nat → List (Int × Int)} {sh : Nat → Nat} {h : ak_S} {X : Nat → ak_S → Prop}
theorem am_s163 {Q : Int → ak_S → Prop} {s : Nat} {k : Int} (W : ak_Tok S T O) (C : ak_tC S T h) (hO : O ≤ 200) (ho : ∀ o, o < O → sh o < S ∧ h.1 34 o = (sh o : Int)) (hs : s < S)
    (q0 : k < 1 ∨ 200 < k → Q (-1) h) (q1 : 1 ≤ k → k ≤ 200 → ∀ h', ak_wkF h h' → Q (ak_at (ak_Wy T sh O s) (k - 1).toNat) h') : ak_MI e 0 (d + 3) ρ 163 [am_r 33, am_i (s : Int), am_i k] h Q X := by
  refine ak_MI_of (Nat.le_of_ble_eq_true rfl) (am_k163_0 ⟨fun g => q0 (Or.inl g), fun g1 => ⟨fun g2 => ?_, fun g2 => q0 (Or.inr g2)⟩⟩)
  obtain ⟨n, hn⟩ : ∃ n : Nat, k = (n : Int) := ⟨k.toNat, by omega⟩
  subst hn
  have lp : ∀ (c i : Nat) (st : List (List (Int × Int))) (v : Nat → Bool) (h1 : ak_S) (x3 : Int), i + c = n → ak_wk S O T h1 st v → ak_W T sh O st v = (ak_Wy T sh O s).drop i → ak_wkF h h1 → (1 ≤ i → x3 = ak_at (ak_Wy T sh O s) (i - 1)) →
      ak_W0 e 0 (d + 2) 163 ρ 24 [some (am_r 33), none, some (am_i (n : Int)), some (am_i x3), some (am_i (i : Int))] [] h1 (ak_qi Q X) := by
    intro c
    induction c with
    | zero =>
      intro i st v h1 x3 hi wk wr f hx
      have : i = n := by omega
      subst this
      refine am_k163_24 ⟨fun _ => ?_, fun g => by omega⟩
      rw [hx (by omega)]
      have := q1 g1 g2 h1 f
      rw [show ((i : Int) - 1).toNat = i - 1 by omega] at this
      exact this
    | succ c ih =>
      intro i st v h1 x3 hi wk wr f hx
      refine am_k163_24 ⟨fun g => by omega, fun _ => ?_⟩
      rw [ak_wj (show i < 1000000 by omega)]
      refine am_s162 (d := d + 1) W (ak_tC_out C (fun q k hq => f.1 q k (by omega) (by omega))) hO (fun o hh => ⟨(ho o hh).1, (f.1 _ _ (by omega) (by omega)).trans (ho o hh).2⟩) wk (fun e' h2 k2 f2 => ?_) (fun o' rest' e' p1 p2 st' h2 k2 w2 f2 => ?_)
      · rw [wr] at e'
        have hl : (ak_Wy T sh O s).length ≤ i := List.drop_eq_nil_iff.mp e'
        refine ih (i + 1) [] v h2 (-1) (by omega) k2 ?_ (ak_wkF_trans f f2) (fun _ => ?_)
        · rw [ak_W_nil, List.drop_eq_nil_of_le (by omega)]
        · unfold ak_at
          rw [List.getElem?_eq_none (by omega)]
      · rw [wr] at e'
        have hl : i < (ak_Wy T sh O s).length := by
          rcases Nat.lt_or_ge i (ak_Wy T sh O s).length with z | z
          · exact z
          · rw [List.drop_eq_nil_of_le z] at e'; cases e'
        rw [List.drop_eq_getElem_cons hl] at e'
        have e1 := (List.cons.inj e').1
        have e2 := (List.cons.inj e').2
        refine ih (i + 1) st' (ak_mq v o') h2 (o' : Int) (by omega) k2 (w2.trans e2.symm) (ak_wkF_trans f f2) (fun _ => ?_)
        unfold ak_at
        rw [show i + 1 - 1 = i by omega, List.getElem?_eq_getElem hl, e1]
  exact am_s161 (d := d) (O := O) (T := T) hs (fun h1 k1 f1 => lp n 0 [T s] ak_vn h1 (-1) (by omega) k1 rfl f1 (fun z => by omega)) hO
end ONW
