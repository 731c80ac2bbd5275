/-! what reading a text may change: of the one (text u), of the other (half p) -/
def ak_pcI (u q k : Nat) : Prop := q = 2 ∨ q = 31 ∨ (q = 3 ∧ 7 ≤ k ∧ k ≤ 9) ∨ (ak_T u ≤ q ∧ q ≤ ak_T u + 20)
def ak_pcJ (u q k : Nat) : Prop := q = 30 ∨ (q = 3 ∧ k = 10) ∨ (ak_T u ≤ q ∧ q ≤ ak_T u + 20)
def ak_pC (u : Nat) (h h' : ak_S) : Prop := (∀ q k, ¬ ak_pcI u q k → h'.1 q k = h.1 q k) ∧ (∀ q k, ¬ ak_pcJ u q k → h'.2.1 q k = h.2.1 q k)
def ak_pmI (p q k : Nat) : Prop := (q = 110 ∧ ((32 ≤ k ∧ k ≤ 38) ∨ (42 ≤ k ∧ k ≤ 45))) ∨ (114 ≤ q ∧ q ≤ 120 ∧ 9000 * p ≤ k ∧ k < 9000 * p + 9000) ∨ ((q = 121 ∨ q = 122 ∨ q = 127 ∨ q = 131 ∨ q = 134) ∧ k = p) ∨ (123 ≤ q ∧ q ≤ 126 ∧ 40 * p ≤ k ∧ k < 40 * p + 40) ∨
  (128 ≤ q ∧ q ≤ 130 ∧ 150 * p ≤ k ∧ k < 150 * p + 150) ∨ ((q = 132 ∨ q = 133) ∧ 100 * p ≤ k ∧ k < 100 * p + 100) ∨ ((q = 135 ∨ q = 136) ∧ 60 * p ≤ k ∧ k < 60 * p + 60) ∨ q = 138 ∨ q = 139 ∨ q = 140
def ak_pM (p : Nat) (h h' : ak_S) : Prop := (∀ q k, ¬ ak_pmI p q k → h'.1 q k = h.1 q k) ∧ h'.2.1 = h.2.1
theorem ak_pC_refl {u : Nat} {h : ak_S} : ak_pC u h h := ⟨fun _ _ _ => rfl, fun _ _ _ => rfl⟩
theorem ak_pM_refl {p : Nat} {h : ak_S} : ak_pM p h h := ⟨fun _ _ _ => rfl, rfl⟩
theorem ak_pC_trans {u : Nat} {h h' h2 : ak_S} (w : ak_pC u h h') (w2 : ak_pC u h' h2) : ak_pC u h h2 := ⟨fun q k hq => (w2.1 q k hq).trans (w.1 q k hq), fun q k hq => (w2.2 q k hq).trans (w.2 q k hq)⟩
theorem ak_pM_trans {p : Nat} {h h' h2 : ak_S} (w : ak_pM p h h') (w2 : ak_pM p h' h2) : ak_pM p h h2 := ⟨fun q k hq => (w2.1 q k hq).trans (w.1 q k hq), w2.2.trans w.2⟩
theorem ak_up_out {f : Nat → Nat → Int} {p k q j : Nat} {v : Int} (h : ¬ (q = p ∧ j = k)) : am_up f p k v q j = f q j := by
  unfold am_up
  by_cases hq : q = p
  · rw [if_pos hq, if_neg (fun z => h ⟨hq, z⟩)]
  · rw [if_neg hq]
theorem ak_pC_upI {u : Nat} {h h' : ak_S} (w : ak_pC u h h') {q k : Nat} {v : Int} (hq : ak_pcI u q k) : ak_pC u h (am_up h'.1 q k v, h'.2) :=
  ⟨fun q' k' hn => (ak_up_out (fun z => hn (by rw [z.1, z.2]; exact hq))).trans (w.1 q' k' hn), w.2⟩
theorem ak_pC_upJ {u : Nat} {h h' : ak_S} (w : ak_pC u h h') {q k : Nat} {v : Int} (hq : ak_pcJ u q k) : ak_pC u h (h'.1, am_up h'.2.1 q k v, h'.2.2) :=
  ⟨w.1, fun q' k' hn => (ak_up_out (fun z => hn (by rw [z.1, z.2]; exact hq))).trans (w.2 q' k' hn)⟩
theorem ak_pM_upI {p : Nat} {h h' : ak_S} (w : ak_pM p h h') {q k : Nat} {v : Int} (hq : ak_pmI p q k) : ak_pM p h (am_up h'.1 q k v, h'.2) :=
  ⟨fun q' k' hn => (ak_up_out (fun z => hn (by rw [z.1, z.2]; exact hq))).trans (w.1 q' k' hn), w.2⟩
theorem ak_pC_afr {u : Nat} {h h' : ak_S} (w : ak_afr h h') : ak_pC u h h' :=
  ⟨fun q k hn => w.1 q k (fun z => hn (Or.inr (Or.inr (Or.inl z)))), fun q k hn => w.2.1 q k (fun z => hn (Or.inr (Or.inl z)))⟩
theorem ak_pC_th {u : Nat} {h : ak_S} : ak_pC u h (ak_th h) := ⟨fun _ _ _ => rfl, fun _ _ _ => rfl⟩
theorem ak_pM_rfr {p : Nat} {h h' : ak_S} (w : ak_rfr h h') : ak_pM p h h' :=
  ⟨fun q k hn => w.1 q k (fun z => hn (Or.inl ⟨z.1, Or.inl ⟨z.2.1, by omega⟩⟩)), congrArg (fun x => x.1) w.2⟩
theorem ak_pM_wr {p : Nat} {h : ak_S} : ak_pM p h (ak_wr h) := ak_pM_upI ak_pM_refl (Or.inl ⟨rfl, Or.inl ⟨by decide, by decide⟩⟩)
theorem ak_pC_put {u : Nat} {h : ak_S} {z : Nat} {o x : Int} : ak_pC u h (ak_put h u z o x) := by
  have h1 : ak_pC u h (am_up h.1 (ak_T u + 2) z o, h.2) := ak_pC_upI ak_pC_refl (Or.inr (Or.inr (Or.inr ⟨by omega, by omega⟩)))
  have h2 := ak_pC_upI (q := ak_T u + 3) (k := z) (v := x) h1 (Or.inr (Or.inr (Or.inr ⟨by omega, by omega⟩)))
  exact ak_pC_upI (q := ak_T u + 1) (k := 2) (v := ((z + 1 : Nat) : Int)) h2 (Or.inr (Or.inr (Or.inr ⟨by omega, by omega⟩)))
theorem ak_pC_land {u : Nat} {h : ak_S} {s : Nat} {z : Int} : ak_pC u h (ak_land h u s z) := ak_pC_upI ak_pC_refl (Or.inr (Or.inr (Or.inr ⟨by omega, by omega⟩)))
theorem ak_pC_nm {u : Nat} {h : ak_S} {N : Nat} {w : Int} : ak_pC u h (ak_nmC h u N w) := by
  have h1 : ak_pC u h (am_up h.1 (ak_T u) 6 ((N + 1 : Nat) : Int), h.2) := ak_pC_upI ak_pC_refl (Or.inr (Or.inr (Or.inr ⟨by omega, by omega⟩)))
  exact ak_pC_upJ (q := ak_T u + 14) (k := N) (v := w) h1 (Or.inr (Or.inr ⟨by omega, by omega⟩))
theorem ak_pM_nm {p : Nat} {h : ak_S} {N : Nat} {i z : Int} (hN : N < 100) : ak_pM p h (ak_nmM h p N i z) := by
  have h1 : ak_pM p h (am_up h.1 132 (100 * p + N) i, h.2) := ak_pM_upI ak_pM_refl (Or.inr (Or.inr (Or.inr (Or.inr (Or.inr (Or.inl ⟨Or.inl rfl, by omega, by omega⟩))))))
  have h2 := ak_pM_upI (q := 133) (k := 100 * p + N) (v := z) h1 (Or.inr (Or.inr (Or.inr (Or.inr (Or.inr (Or.inl ⟨Or.inr rfl, by omega, by omega⟩))))))
  exact ak_pM_upI (q := 131) (k := p) (v := ((N + 1 : Nat) : Int)) h2 (Or.inr (Or.inr (Or.inl ⟨Or.inr (Or.inr (Or.inr (Or.inl rfl))), rfl⟩)))
theorem ak_pM_node {p : Nat} {h : ak_S} {z : Nat} {k w : Int} (hz : z < 9000) : ak_pM p h (ak_node h p z k w) := by
  have g : ∀ q, 114 ≤ q → q ≤ 120 → ak_pmI p q (9000 * p + z) := fun q h1 h2 => Or.inr (Or.inl ⟨h1, h2, by omega, by omega⟩)
  have h0 : ak_pM p h (am_up h.1 121 p ((z + 1 : Nat) : Int), h.2) := ak_pM_upI ak_pM_refl (Or.inr (Or.inr (Or.inl ⟨Or.inl rfl, rfl⟩)))
  have h1 := ak_pM_upI (v := k) h0 (g 114 (by omega) (by omega))
  have h2 := ak_pM_upI (v := -1) h1 (g 115 (by omega) (by omega))
  have h3 := ak_pM_upI (v := -1) h2 (g 116 (by omega) (by omega))
  have h4 := ak_pM_upI (v := -1) h3 (g 117 (by omega) (by omega))
  have h5 := ak_pM_upI (v := -1) h4 (g 118 (by omega) (by omega))
  have h6 := ak_pM_upI (v := -1) h5 (g 119 (by omega) (by omega))
  exact ak_pM_upI (v := w) h6 (g 120 (by omega) (by omega))
theorem ak_pC_dc {u lv k : Nat} {h : ak_S} {w : Int} : ak_pC u h (ak_dcC h lv k w) := by
  have h1 : ak_pC u h (am_up h.1 31 lv ((k + 1 : Nat) : Int), h.2) := ak_pC_upI ak_pC_refl (Or.inr (Or.inl rfl))
  exact ak_pC_upJ (q := 30) (k := 12 * lv + k) (v := w) h1 (Or.inl rfl)
theorem ak_pM_dc {p lv k : Nat} {h : ak_S} {a z : Int} : ak_pM p h (ak_dcM h lv k a z) := by
  have h1 : ak_pM p h (am_up h.1 139 (12 * lv + k) a, h.2) := ak_pM_upI ak_pM_refl (Or.inr (Or.inr (Or.inr (Or.inr (Or.inr (Or.inr (Or.inr (Or.inr (Or.inl rfl)))))))))
  have h2 := ak_pM_upI (q := 140) (k := 12 * lv + k) (v := z) h1 (Or.inr (Or.inr (Or.inr (Or.inr (Or.inr (Or.inr (Or.inr (Or.inr (Or.inr rfl)))))))))
  exact ak_pM_upI (q := 138) (k := lv) (v := ((k + 1 : Nat) : Int)) h2 (Or.inr (Or.inr (Or.inr (Or.inr (Or.inr (Or.inr (Or.inr (Or.inl rfl))))))))
