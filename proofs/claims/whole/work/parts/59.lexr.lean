/-! the other's reading of a token -/
def ak_rfr (h h' : ak_S) : Prop := (∀ p k, ¬ (p = 110 ∧ 32 ≤ k ∧ k ≤ 36) → h'.1 p k = h.1 p k) ∧ h'.2 = h.2
theorem ak_rfr_refl {h : ak_S} : ak_rfr h h := ⟨fun _ _ _ => rfl, rfl⟩
theorem ak_rfr_up {h h' : ak_S} (w : ak_rfr h h') {k : Nat} (h1 : 32 ≤ k) (h2 : k ≤ 36) {v : Int} : ak_rfr h (am_up h'.1 110 k v, h'.2) := by
  refine ⟨fun p j hp => ?_, w.2⟩
  rw [← w.1 p j hp]
  show am_up h'.1 110 k v p j = _
  unfold am_up
  by_cases hp1 : p = 110
  · rw [if_pos hp1, if_neg (fun z => hp ⟨hp1, by omega, by omega⟩)]
  · rw [if_neg hp1]
theorem ak_mt_fr {h h' : ak_S} {p n : Nat} {b : Nat → Int} (m : ak_mt h p n b) (w : ak_rfr h h') : ak_mt h' p n b := by
  obtain ⟨m1, m2, m3, m4, m5, m6⟩ := m
  refine ⟨?_, m2, ?_, m4, fun k hk => ?_, fun k hk => ?_⟩
  · rw [w.1 110 31 (by omega)]; exact m1
  · rw [w.1 113 p (by omega)]; exact m3
  · rw [w.1 112 _ (by omega)]; exact m5 k hk
  · rw [w.1 137 k (by omega)]; exact m6 k hk
theorem ak_up_eq {f : Nat → Nat → Int} {k : Nat} {v : Int} : am_up f 110 k v 110 k = v := by unfold am_up; rw [if_pos rfl, if_pos rfl]
theorem ak_up_ne {f : Nat → Nat → Int} {k j : Nat} {v : Int} (hj : j ≠ k) : am_up f 110 k v 110 j = f 110 j := by unfold am_up; rw [if_pos rfl, if_neg hj]
theorem ak_lB_mod {c : Int} (h : -128 ≤ c ∧ c < 128) : ak_lB (c % 256) = true ↔ ak_lB c = true := by rw [ak_lB_iff, ak_lB_iff]; unfold ak_isL; omega
theorem ak_dB_mod {c : Int} (h : -128 ≤ c ∧ c < 128) : ak_dB (c % 256) = true ↔ ak_dB c = true := by rw [ak_dB_iff, ak_dB_iff]; unfold ak_isD; omega
/-- what reading from j on gives -/
def ak_rdp (h h' : ak_S) (b : Nat → Int) (n j : Nat) : Prop :=
  h'.1 110 32 = ((ak_nx b n (ak_end ak_wB b n j) : Nat) : Int) ∧ h'.1 110 33 = ak_kd b n (ak_end ak_wB b n j) ∧ h'.1 110 34 = ((ak_end ak_wB b n j : Nat) : Int) ∧
  h'.1 110 35 = ((ak_nx b n (ak_end ak_wB b n j) - ak_end ak_wB b n j : Nat) : Int) ∧
  (ak_end ak_wB b n j < n → ak_dB (b (ak_end ak_wB b n j)) = true → ak_nx b n (ak_end ak_wB b n j) - ak_end ak_wB b n j ≤ 9 → h'.1 110 36 = ak_nu b (ak_end ak_wB b n j) (ak_nx b n (ak_end ak_wB b n j) - ak_end ak_wB b n j)) ∧ ak_rfr h h'
section LEXR
variable {e : ak_X3} {d : Nat} {ρ : List Nat} {h : ak_S} {p n : Nat} {b : Nat → Int}
theorem am_s202 {Q : Int → ak_S → Prop} {X : Nat → ak_S → Prop} {c : Int} (w1 : ak_lB c = true → Q 1 h) (w0 : ¬ ak_lB c = true → Q 0 h) : ak_MI e 1 (d + 1) ρ 202 [am_i c] h Q X := by
  rw [ak_lB_iff] at w1 w0
  unfold ak_isL at w1 w0
  exact ak_MI_of (Nat.le_of_ble_eq_true rfl) (am_k202_0 ⟨fun h0 => ⟨Or.inl rfl, w0 (by omega)⟩, fun h0 => ⟨fun h1 => ⟨Or.inl rfl, w0 (by omega)⟩, fun h1 => ⟨Or.inr rfl, w1 ⟨h0, h1⟩⟩⟩⟩)
theorem am_s203 {Q : Int → ak_S → Prop} {X : Nat → ak_S → Prop} {c : Int} (w1 : ak_dB c = true → Q 1 h) (w0 : ¬ ak_dB c = true → Q 0 h) : ak_MI e 1 (d + 1) ρ 203 [am_i c] h Q X := by
  rw [ak_dB_iff] at w1 w0
  unfold ak_isD at w1 w0
  exact ak_MI_of (Nat.le_of_ble_eq_true rfl) (am_k203_0 ⟨fun h0 => ⟨Or.inl rfl, w0 (by omega)⟩, fun h0 => ⟨fun h1 => ⟨Or.inl rfl, w0 (by omega)⟩, fun h1 => ⟨Or.inr rfl, w1 ⟨h0, h1⟩⟩⟩⟩)
theorem am_l205_300 {Q : ak_S → Prop} {X : Nat → ak_S → Prop} {x : Int} {i j : Nat} (hi : h.1 110 34 = (i : Int)) (hj : h.1 110 32 = (j : Int)) (hij : i ≤ j) (hj6 : j ≤ 6000)
    (yes : x ∈ ak_sgs → Q (am_up (am_up h.1 110 33 x) 110 35 ((j - i : Nat) : Int), h.2)) (no : x ∉ ak_sgs → Q (am_up h.1 110 35 ((j - i : Nat) : Int), h.2)) : ak_W0 e 1 d 205 ρ 300 [some (am_r 110), some (am_i x)] [] h (ak_qv Q X) := by
  refine am_k205_300 ?_
  rw [hi, hj, ak_wsub hij hj6]
  refine ⟨fun z => yes (by rw [z]; decide), fun n0 => ⟨fun z => yes (by rw [z]; decide), fun n1 => ⟨fun z => yes (by rw [z]; decide), fun n2 => ⟨fun z => yes (by rw [z]; decide), fun n3 => ⟨fun z => yes (by rw [z]; decide), fun n4 => ⟨fun z => yes (by rw [z]; decide), fun n5 => ⟨fun z => yes (by rw [z]; decide), fun n6 => ⟨fun z => yes (by rw [z]; decide), fun n7 => ⟨fun z => yes (by rw [z]; decide), fun n8 => ⟨fun z => yes (by rw [z]; decide), fun n9 => ⟨fun z => yes (by rw [z]; decide), fun n10 => ⟨fun z => yes (by rw [z]; decide), fun n11 => ⟨fun z => yes (by rw [z]; decide), fun n12 => ⟨fun z => yes (by rw [z]; decide), fun n13 => ⟨fun z => yes (by rw [z]; decide), fun n14 => ⟨fun z => yes (by rw [z]; decide), fun n15 => ⟨fun z => yes (by rw [z]; decide), fun n16 => ⟨fun z => yes (by rw [z]; decide), fun n17 => ⟨fun n18 => no (fun hm => ?_), fun z => yes (by rw [z]; decide)⟩⟩⟩⟩⟩⟩⟩⟩⟩⟩⟩⟩⟩⟩⟩⟩⟩⟩⟩
  simp only [ak_sgs, List.mem_cons, List.not_mem_nil, or_false] at hm
  rcases hm with z | z | z | z | z | z | z | z | z | z | z | z | z | z | z | z | z | z | z
  · exact n0 z
  · exact n1 z
  · exact n2 z
  · exact n3 z
  · exact n4 z
  · exact n5 z
  · exact n6 z
  · exact n7 z
  · exact n8 z
  · exact n9 z
  · exact n10 z
  · exact n11 z
  · exact n12 z
  · exact n13 z
  · exact n14 z
  · exact n15 z
  · exact n16 z
  · exact n17 z
  · exact n18 z
/-- letters up to their end -/
theorem am_l205_78 {Q : ak_S → Prop} {X : Nat → ak_S → Prop} {i : Nat} {h0 : ak_S} (hm : ak_mt h0 p n b) (hin : i < n) (hp : ak_lB (b i) = true) (w : ∀ h2, ak_rfr h0 h2 → h2.1 110 32 = ((ak_end ak_lB b n i : Nat) : Int) → h2.1 110 33 = (if 8 < ak_end ak_lB b n i - i then 1 else ak_kidx (ak_pk b i (ak_end ak_lB b n i - i)) ak_kws 0) →
    h2.1 110 34 = (i : Int) → h2.1 110 35 = ((ak_end ak_lB b n i - i : Nat) : Int) → Q h2) :
    ∀ (c j : Nat) (h : ak_S), j + c = n → i ≤ j → (∀ k, i ≤ k → k < j → ak_isL (b k)) → ak_end ak_lB b n j = ak_end ak_lB b n i → ak_rfr h0 h → h.1 110 34 = (i : Int) → h.1 110 32 = (j : Int) → ak_W0 e 1 (d + 2) 205 ρ 78 [some (am_r 110), none] [] h (ak_qv Q X) := by
  have hn6 : n ≤ 6000 := hm.2.2.2.1
  have hel := ak_end_le (P := ak_lB) (b := b) (n := n) (i := i) (by omega)
  have hE0 := ak_end_yes hin hp
  have hel2 := ak_end_le (P := ak_lB) (b := b) (n := n) (i := i + 1) (by omega)
  rw [← hE0] at hel2
  clear hE0
  generalize ak_end ak_lB b n i = E at w hel hel2
  have fin : ∀ (h : ak_S), (∀ k, i ≤ k → k < E → ak_isL (b k)) → ak_rfr h0 h → h.1 110 34 = (i : Int) → h.1 110 32 = (E : Int) →
      (am_w32 (h.1 110 32 - h.1 110 34) ≤ 8 → ak_MI e 1 (d + 2) ρ 204 [am_r 110] (am_up h.1 110 35 (am_w32 (h.1 110 32 - h.1 110 34)), h.2) (fun v6 h5 => Q (am_up h5.1 110 33 v6, h5.2)) (fun _ _ => False)) ∧
      (8 < am_w32 (h.1 110 32 - h.1 110 34) → Q (am_up (am_up h.1 110 35 (am_w32 (h.1 110 32 - h.1 110 34))) 110 33 1, h.2)) := by
    intro h hall hf h34 h32
    rw [h34, h32, ak_wsub hel.1 (by omega)]
    have f1 := ak_rfr_up (k := 35) (v := ((E - i : Nat) : Int)) hf (by omega) (by omega)
    refine ⟨fun g => ?_, fun g => ?_⟩
    · refine am_s204 (i := i) (m := E - i) (ak_mt_fr hm f1) ?_ (by simp [am_up]) (by omega) (by omega) (by omega) (fun x hx => hall (i + x) (by omega) (by omega)) ?_
      · simp [am_up, h34]
      · refine w _ (ak_rfr_up f1 (by omega) (by omega)) ?_ ?_ ?_ ?_
        · simp [am_up, h32]
        · rw [if_neg (by omega)]; simp [am_up]
        · simp [am_up, h34]
        · simp [am_up]
    · refine w _ (ak_rfr_up f1 (by omega) (by omega)) ?_ ?_ ?_ ?_
      · simp [am_up, h32]
      · rw [if_pos (by omega)]; simp [am_up]
      · simp [am_up, h34]
      · simp [am_up]
  intro c
  induction c with
  | zero =>
    intro j h hj hij hall hE2 hf h34 h32
    have hjE : E = j := by rw [← hE2]; exact ak_end_ge (by omega)
    refine am_k205_78 ?_
    rw [h32]
    refine am_s201 (ak_mt_fr hm hf) (fun z => absurd z (by omega)) (fun _ => am_s202 (fun z => absurd z (by decide)) (fun _ => ⟨fun _ => ?_, fun z => absurd rfl z⟩))
    subst hjE
    exact fin h hall hf h34 h32
  | succ c ih =>
    intro j h hj hij hall hE2 hf h34 h32
    have hjn : j < n := by omega
    have hbj := (hm.2.2.2.2.1 j hjn).2
    refine am_k205_78 ?_
    rw [h32]
    refine am_s201 (ak_mt_fr hm hf) (fun _ => am_s202 (fun z => ⟨fun q => absurd q (by decide), fun _ => ?_⟩) (fun z => ⟨fun _ => ?_, fun q => absurd rfl q⟩)) (fun z => absurd z (by omega))
    · rw [ak_lB_mod hbj] at z
      have hL := ak_lB_iff.mp z
      rw [h32, ak_wj (show j < 1000000 by omega)]
      refine ih (j + 1) _ (by omega) (by omega) (fun k k1 k2 => ?_) (by rw [← hE2]; exact (ak_end_yes hjn z).symm) (ak_rfr_up hf (by omega) (by omega)) (by simp [am_up, h34]) (by simp [am_up])
      by_cases hkj : k = j
      · subst hkj; exact hL
      · exact hall k k1 (by omega)
    · rw [ak_lB_mod hbj] at z
      have hjE : E = j := by rw [← hE2]; exact ak_end_no hjn z
      subst hjE
      exact fin h hall hf h34 h32
end LEXR
