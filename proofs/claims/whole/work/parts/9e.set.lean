/-! set and add -/
section LKSET
variable {e : ak_X3} {d dd u p : Nat} {b : Nat → Int} {n m lv o Mt : Nat} {D : Nat → Nat} {z : Nat → Nat} {hc hm hc' hm' hcx hmx : ak_S} {ρ : List Nat}
theorem ak_WRs_cell (w : ak_WRs u p hc hm hc' hm') {q k : Nat} {v : Int} (hq : 114 ≤ q ∧ q ≤ 120) (h1 : 9000 * p ≤ k) (h2 : k < 9000 * p + 9000) : ak_WRs u p hc hm hc' (am_up hm'.1 q k v, hm'.2) := by
  obtain ⟨w1, w2, w3, w4, w5, w6, w7, w8⟩ := w
  have e1 : am_up hm'.1 q k v 110 37 = hm'.1 110 37 := ak_up_out (by omega)
  have e2 : am_up hm'.1 q k v 121 p = hm'.1 121 p := ak_up_out (by omega)
  refine ⟨?_, ?_, w3, ak_pM_upI w4 (Or.inr (Or.inl ⟨hq.1, hq.2, h1, h2⟩)), ?_, ?_, w7, w8⟩
  · show 0 ≤ am_up hm'.1 q k v 110 37
    rw [e1]; exact w1
  · show am_up hm'.1 q k v 110 37 = _
    rw [e1]; exact w2
  · show 0 ≤ am_up hm'.1 q k v 121 p
    rw [e2]; exact w5
  · show am_up hm'.1 q k v 121 p + _ ≤ _
    rw [e2]; exact w6
theorem ak_WRs_node {y : Nat} {k w : Int} (wr : ak_WR u p hc hm hc' hm') (hop : 0 ≤ hm.1 110 38) (hy : hm'.1 121 p = (y : Int)) : ak_WRs u p hc hm hc' (ak_node hm' p y k w) := by
  obtain ⟨w1, w2, w3, w4, w5, w6, w7, w8⟩ := wr
  have e1 : (ak_node hm' p y k w).1 110 37 = hm'.1 110 37 := ak_node_at (by omega) (by omega)
  have e2 : (ak_node hm' p y k w).1 121 p = ((y + 1 : Nat) : Int) := by simp [ak_node, am_up]
  refine ⟨by rw [e1]; exact w1, by rw [e1]; exact w2, w3, ak_pM_trans w4 (ak_pM_node (by omega)), by omega, by omega, w7, w8⟩
theorem ak_WR_nodes (wr : ak_WR u p hc hm hc' hm') (hop : 0 ≤ hm.1 110 38) : ∃ y : Nat, hm'.1 121 p = (y : Int) ∧ y < 8000 := by
  obtain ⟨w1, w2, w3, w4, w5, w6, w7, w8⟩ := wr
  exact ⟨(hm'.1 121 p).toNat, by omega, by omega⟩
theorem ak_WR_p {a : Int} (wr : ak_WR u p hc hm hc' hm') (hp : hm.1 110 31 = a) : hm'.1 110 31 = a := by
  rw [wr.2.2.2.1.1 110 31 (by unfold ak_pmI; omega)]
  exact hp
/-- set, add: a fault before the node -/
theorem am_w233_221 {x1 x2 x3 y0 : Int} (hp : hm.1 110 31 = (p : Int)) (hp2 : p < 2) (hop : 0 ≤ hm.1 110 38) (wr : ak_WR u p hc hm hcx hmx)
    (G : ∀ (Q : Int → ak_S → Prop) (X : Nat → ak_S → Prop), ak_W0 e 1 (d + 8) 233 ρ 221 [some (am_r 110), some (am_i x1), some (am_i x2), some (am_i x3), none, none, none, none] [am_i y0, am_r 110] hmx (ak_qi Q X) → ak_MI e 1 (d + 9) ρ 233 [am_r 110] hm Q X) :
    ∃ (x : Int) (hm' : ak_S), ak_WRs u p hc hm hcx hm' ∧ ak_goI e (d + 9) ρ 233 [am_r 110] hm x hm' := by
  obtain ⟨y, hy, hy2⟩ := ak_WR_nodes wr hop
  have hp' := ak_WR_p wr hp
  have bv : 0 ≤ ((9000 * p + y : Nat) : Int) ∧ ((9000 * p + y : Nat) : Int) < 18000 := by omega
  have W0 := ak_WRs_node (k := y0) (w := x1) wr hop hy
  have W1 := ak_WRs_cell W0 (q := 115) (k := 9000 * p + y) (v := x3) (by decide) (by omega) (by omega)
  have W2 := ak_WRs_cell W1 (q := 117) (k := 9000 * p + y) (v := 0) (by decide) (by omega) (by omega)
  have W3 := ak_WRs_cell W2 (q := 116) (k := 9000 * p + y) (v := -1) (by decide) (by omega) (by omega)
  refine ⟨((9000 * p + y : Nat) : Int), _, W3, fun Q X g => G Q X (am_k233_221 (am_s212 hp' hp2 hy (by omega) ⟨bv, ?_⟩))⟩
  have tail : ak_W0 e 1 (d + 8) 233 ρ 257 [some (am_r 110), none, none, none, some (am_i ((9000 * p + y : Nat) : Int)), none, none, none] [am_i 0, am_i ((9000 * p + y : Nat) : Int), am_r 117] (am_up (ak_node hmx p y y0 x1).1 115 (9000 * p + y) x3, (ak_node hmx p y y0 x1).2) (ak_qi Q X) := by
    refine am_k233_257 ⟨bv, ?_⟩
    rw [ak_natn]
    exact am_s209w W2.1 (am_w222 W2.1 ⟨bv, am_s209w W3.1 g⟩)
  rw [ak_natn]
  exact ⟨fun _ => am_w220 W1.1 tail, fun _ => am_w219 W1.1 tail⟩
end LKSET
