/-! the one drops the entries that rest on an object -/
abbrev ak_E := Nat × Int × Int × Int × Int
/-- an entry (shape, name, start, place, holder) in row r of the one -/
def ak_eC (h : ak_S) (r : Nat) (en : ak_E) : Prop := h.1 45 (5 * r) = (en.1 : Int) ∧ h.1 45 (5 * r + 1) = en.2.2.1 ∧ h.1 45 (5 * r + 2) = en.2.2.2.1 ∧ h.1 45 (5 * r + 3) = en.2.2.2.2 ∧ h.1 45 (5 * r + 4) = en.2.1
def ak_eB (h : ak_S) (r : Nat) (l : List Nat) : Prop := ∀ o, o < 200 → ak_lb (h.2.1 46 (4 * r + o / 64)) (o % 64) = decide (o ∈ l)
def ak_gC (R : ak_E → List Nat) (first : Nat) (E : List ak_E) (h : ak_S) : Prop := ∀ (k : Nat) (en : ak_E), E[k]? = some en → ak_eC h (first + k) en ∧ ak_eB h (first + k) (R en)
/-- what went: site, shape, name, start -/
def ak_gnC (G : List (Int × Int × Int × Int)) (h : ak_S) : Prop := h.1 44 5 = (G.length : Int) ∧ ∀ (j : Nat) (g : Int × Int × Int × Int), G[j]? = some g → h.1 48 (4 * j) = g.1 ∧ h.1 48 (4 * j + 1) = g.2.1 ∧ h.1 48 (4 * j + 2) = g.2.2.1 ∧ h.1 48 (4 * j + 3) = g.2.2.2
def ak_kp (R : ak_E → List Nat) (o : Nat) (en : ak_E) : Bool := decide (o ∉ R en)
def ak_gg (site : Int) (en : ak_E) : Int × Int × Int × Int := (site, (en.1 : Int), en.2.1, en.2.2.1)
/-- what sifting the rows from a up to b changes -/
def ak_sfF (a b : Nat) (h h' : ak_S) : Prop := (∀ q k, ¬ (q = 45 ∧ 5 * a ≤ k ∧ k < 5 * b) → q ≠ 48 → ¬ (q = 44 ∧ k = 5) → h'.1 q k = h.1 q k) ∧ (∀ q k, ¬ (q = 46 ∧ 4 * a ≤ k ∧ k < 4 * b) → h'.2.1 q k = h.2.1 q k) ∧ h'.2.2 = h.2.2
section SIFT
variable {e : ak_X3} {d o first : Nat} {ρ : List Nat} {R : ak_E → List Nat} {h h' h2 : ak_S} {E : List ak_E} {G : List (Int × Int × Int × Int)} {X : Nat → ak_S → Prop}
theorem ak_sfF_trans {a b : Nat} (w : ak_sfF a b h h') (w2 : ak_sfF a b h' h2) : ak_sfF a b h h2 := ⟨fun q k a b c => (w2.1 q k a b c).trans (w.1 q k a b c), fun q k a => (w2.2.1 q k a).trans (w.2.1 q k a), w2.2.2.trans w.2.2⟩
theorem ak_w5 {r : Nat} (h : r < 100000) : am_w32 ((r : Int) * 5) = ((5 * r : Nat) : Int) := by rw [ak_w _ (by omega)]; omega
theorem ak_w4 {r : Nat} (h : r < 100000) : am_w32 ((r : Int) * 4) = ((4 * r : Nat) : Int) := by rw [ak_w _ (by omega)]; omega
theorem ak_wpp {a b : Nat} (h : a + b < 1000000) : am_w32 ((a : Int) + (b : Int)) = ((a + b : Nat) : Int) := by rw [ak_w _ (by omega)]; omega
theorem am_s110 {Q : Int → ak_S → Prop} {r : Nat} {l : List Nat} (B : ak_eB h r l) (hr : r < 728) (ho : o < 200) (q : Q (if o ∈ l then 1 else 0) h) : ak_MI e 0 (d + 1) ρ 110 [am_r 44, am_i (r : Int), am_i (o : Int)] h Q X := by
  refine ak_MI_of (Nat.le_of_ble_eq_true rfl) (am_k110_0 ?_)
  rw [ak_ix ho, ak_w4 (by omega), ak_wpp (show 4 * r + o / 64 < 1000000 by omega), ak_natn, ak_bt_raw ho, B o ho]
  refine ⟨by omega, fun g => ⟨Or.inl rfl, ?_⟩, fun g => ⟨Or.inr rfl, ?_⟩⟩
  · have : o ∉ l := fun z => g (by rw [decide_eq_true z, if_pos rfl]; rfl)
    rw [if_neg this] at q
    exact q
  · have : o ∈ l := by
      by_cases z : o ∈ l
      · exact z
      · rw [decide_eq_false z, if_neg (by decide)] at g
        exact absurd g (by decide)
    rw [if_pos this] at q
    exact q
theorem am_s118 {Q : ak_S → Prop} {r : Nat} {site : Int} {en : ak_E} (C : ak_eC h r en) (N : ak_gnC G h) (hG : G.length < 728) (hr : r < 728) (q : ∀ h', ak_gnC (G ++ [ak_gg site en]) h' → (∀ q k, q ≠ 48 → ¬ (q = 44 ∧ k = 5) → h'.1 q k = h.1 q k) → h'.2 = h.2 → Q h') :
    ak_MV e 0 (d + 1) ρ 118 [am_r 44, am_i site, am_i (r : Int)] h Q X := by
  refine ak_MV_of (Nat.le_of_ble_eq_true rfl) (am_k118_0 ⟨fun _ => ?_, fun g => ?_⟩)
  · obtain ⟨c1, c2, c3, c4, c5⟩ := C
    have z0 : am_w32 (((5 * r : Nat) : Int) + 0) = ((5 * r : Nat) : Int) := by rw [ak_w _ (by omega)]; omega
    have z1 : am_w32 (((5 * r : Nat) : Int) + 1) = ((5 * r + 1 : Nat) : Int) := by rw [ak_w _ (by omega)]; omega
    have z4 : am_w32 (((5 * r : Nat) : Int) + 4) = ((5 * r + 4 : Nat) : Int) := by rw [ak_w _ (by omega)]; omega
    have y1 : am_w32 (((4 * G.length : Nat) : Int) + 1) = ((4 * G.length + 1 : Nat) : Int) := by rw [ak_w _ (by omega)]; omega
    have y2 : am_w32 (((4 * G.length : Nat) : Int) + 2) = ((4 * G.length + 2 : Nat) : Int) := by rw [ak_w _ (by omega)]; omega
    have y3 : am_w32 (((4 * G.length : Nat) : Int) + 3) = ((4 * G.length + 3 : Nat) : Int) := by rw [ak_w _ (by omega)]; omega
    rw [N.1, ak_w5 (by omega), ak_w4 (by omega), z0, z1, z4, y1, y2, y3, ak_natn, ak_natn, ak_natn, ak_natn, ak_natn, ak_natn, ak_natn, ak_wj (show G.length < 1000000 by omega), c1, c2, c5]
    clear z0 z1 z4 y1 y2 y3
    refine ⟨by omega, by omega, by omega, by omega, by omega, by omega, by omega, q _ ⟨?_, fun j g hg => ?_⟩ (fun q k a b => ?_) rfl⟩
    · refine ak_up_at1.trans ?_
      rw [List.length_append]; rfl
    · show am_up (am_up (am_up (am_up (am_up h.1 48 (4 * G.length) site) 48 (4 * G.length + 1) (en.1 : Int)) 48 (4 * G.length + 2) en.2.1) 48 (4 * G.length + 3) en.2.2.1) 44 5 ((G.length + 1 : Nat) : Int) 48 (4 * j) = _ ∧ am_up (am_up (am_up (am_up (am_up h.1 48 (4 * G.length) site) 48 (4 * G.length + 1) (en.1 : Int)) 48 (4 * G.length + 2) en.2.1) 48 (4 * G.length + 3) en.2.2.1) 44 5 ((G.length + 1 : Nat) : Int) 48 (4 * j + 1) = _ ∧ am_up (am_up (am_up (am_up (am_up h.1 48 (4 * G.length) site) 48 (4 * G.length + 1) (en.1 : Int)) 48 (4 * G.length + 2) en.2.1) 48 (4 * G.length + 3) en.2.2.1) 44 5 ((G.length + 1 : Nat) : Int) 48 (4 * j + 2) = _ ∧ am_up (am_up (am_up (am_up (am_up h.1 48 (4 * G.length) site) 48 (4 * G.length + 1) (en.1 : Int)) 48 (4 * G.length + 2) en.2.1) 48 (4 * G.length + 3) en.2.2.1) 44 5 ((G.length + 1 : Nat) : Int) 48 (4 * j + 3) = _
      by_cases hj : j = G.length
      · subst hj
        rw [ak_get_snoc] at hg
        cases hg
        refine ⟨?_, ?_, ?_, ?_⟩ <;> simp [am_up, ak_gg]
      · have hj2 := ak_get_none hg
        rw [List.length_append] at hj2
        simp at hj2
        rw [ak_get_snoc_lt (by omega)] at hg
        have G5 : ∀ k, k < 4 * G.length → am_up (am_up (am_up (am_up (am_up h.1 48 (4 * G.length) site) 48 (4 * G.length + 1) (en.1 : Int)) 48 (4 * G.length + 2) en.2.1) 48 (4 * G.length + 3) en.2.2.1) 44 5 ((G.length + 1 : Nat) : Int) 48 k = h.1 48 k := fun k hk => (ak_up_out (by omega)).trans ((ak_up_out (by omega)).trans ((ak_up_out (by omega)).trans ((ak_up_out (by omega)).trans (ak_up_out (by omega)))))
        rw [G5 _ (by omega), G5 _ (by omega), G5 _ (by omega), G5 _ (by omega)]
        exact N.2 j g hg
    · exact (ak_up_out (by omega)).trans ((ak_up_out (by omega)).trans ((ak_up_out (by omega)).trans ((ak_up_out (by omega)).trans (ak_up_out (by omega)))))
  · rw [N.1] at g; omega
end SIFT
