/-! the other's reading: numerals, all -/
section LEXD
variable {e : ak_X3} {d : Nat} {ρ : List Nat} {h : ak_S} {p n : Nat} {b : Nat → Int}
theorem ak_w10 {v c : Int} (hv : 0 ≤ v ∧ v < 100000000) (hc : 48 ≤ c ∧ c ≤ 57) : am_w32 (am_w32 (am_w32 (10 * v) + c) - 48) = v * 10 + (c - 48) := by
  rw [ak_w (10 * v) (by omega), ak_w (10 * v + c) (by omega), ak_w (10 * v + c - 48) (by omega)]
  omega
theorem am_l205_152 {Q : ak_S → Prop} {X : Nat → ak_S → Prop} {i : Nat} {h0 : ak_S} (hm : ak_mt h0 p n b) (hin : i < n) (w : ∀ h2, ak_rfr h0 h2 → h2.1 110 32 = ((ak_end ak_dB b n i : Nat) : Int) → h2.1 110 33 = (if 9 < ak_end ak_dB b n i - i then 1 else 3) →
    h2.1 110 34 = (i : Int) → h2.1 110 35 = ((ak_end ak_dB b n i - i : Nat) : Int) → (ak_end ak_dB b n i - i ≤ 9 → h2.1 110 36 = ak_nu b i (ak_end ak_dB b n i - i)) → Q h2) :
    ∀ (c j : Nat) (h : ak_S), j + c = n → i ≤ j → (∀ k, i ≤ k → k < j → ak_isD (b k)) → ak_end ak_dB b n j = ak_end ak_dB b n i → ak_rfr h0 h → h.1 110 34 = (i : Int) → h.1 110 32 = (j : Int) → (j - i ≤ 9 → h.1 110 36 = ak_nu b i (j - i)) → ak_W0 e 1 (d + 2) 205 ρ 152 [some (am_r 110), none] [] h (ak_qv Q X) := by
  have hn6 : n ≤ 6000 := hm.2.2.2.1
  have hel := ak_end_le (P := ak_dB) (b := b) (n := n) (i := i) (by omega)
  generalize ak_end ak_dB b n i = E at w hel
  have fin : ∀ (h : ak_S), ak_rfr h0 h → h.1 110 34 = (i : Int) → h.1 110 32 = (E : Int) → (E - i ≤ 9 → h.1 110 36 = ak_nu b i (E - i)) →
      (am_w32 (h.1 110 32 - h.1 110 34) ≤ 9 → Q (am_up (am_up h.1 110 35 (am_w32 (h.1 110 32 - h.1 110 34))) 110 33 3, h.2)) ∧
      (9 < am_w32 (h.1 110 32 - h.1 110 34) → Q (am_up (am_up h.1 110 35 (am_w32 (h.1 110 32 - h.1 110 34))) 110 33 1, h.2)) := by
    intro h hf h34 h32 h36
    rw [h34, h32, ak_wsub hel.1 (by omega)]
    have f1 := ak_rfr_up (k := 35) (v := ((E - i : Nat) : Int)) hf (by omega) (by omega)
    refine ⟨fun g => ?_, fun g => ?_⟩
    · refine w _ (ak_rfr_up f1 (by omega) (by omega)) ?_ ?_ ?_ ?_ (fun q => ?_)
      · simp [am_up, h32]
      · rw [if_neg (by omega)]; simp [am_up]
      · simp [am_up, h34]
      · simp [am_up]
      · simp [am_up, h36 q]
    · refine w _ (ak_rfr_up f1 (by omega) (by omega)) ?_ ?_ ?_ ?_ (fun q => absurd q (by omega))
      · simp [am_up, h32]
      · rw [if_pos (by omega)]; simp [am_up]
      · simp [am_up, h34]
      · simp [am_up]
  intro c
  induction c with
  | zero =>
    intro j h hj hij hall hE2 hf h34 h32 h36
    have hjE : E = j := by rw [← hE2]; exact ak_end_ge (by omega)
    refine am_k205_152 ?_
    rw [h32]
    refine am_s201 (ak_mt_fr hm hf) (fun z => absurd z (by omega)) (fun _ => am_s203 (fun z => absurd z (by decide)) (fun _ => ⟨fun _ => ?_, fun z => absurd rfl z⟩))
    subst hjE
    exact fin h hf h34 h32 h36
  | succ c ih =>
    intro j h hj hij hall hE2 hf h34 h32 h36
    have hjn : j < n := by omega
    have hbj := (hm.2.2.2.2.1 j hjn).2
    refine am_k205_152 ?_
    rw [h32]
    refine am_s201 (ak_mt_fr hm hf) (fun _ => am_s203 (fun z => ⟨fun q => absurd q (by decide), fun _ => ?_⟩) (fun z => ⟨fun _ => ?_, fun q => absurd rfl q⟩)) (fun z => absurd z (by omega))
    · rw [ak_dB_mod hbj] at z
      have hL := ak_dB_iff.mp z
      have hall2 : ∀ k, i ≤ k → k < j + 1 → ak_isD (b k) := by
        intro k k1 k2
        by_cases hkj : k = j
        · subst hkj; exact hL
        · exact hall k k1 (by omega)
      have hE3 : ak_end ak_dB b n (j + 1) = E := by rw [← hE2]; exact (ak_end_yes hjn z).symm
      have hL2 : 48 ≤ b j ∧ b j ≤ 57 := hL
      have hmod : b j % 256 = b j := by omega
      have hadd : ∀ (h : ak_S), ak_rfr h0 h → h.1 110 34 = (i : Int) → h.1 110 32 = (j : Int) → (j + 1 - i ≤ 9 → h.1 110 36 = ak_nu b i (j + 1 - i)) → ak_W0 e 1 (d + 2) 205 ρ 152 [some (am_r 110), none] [] (am_up h.1 110 32 (am_w32 (h.1 110 32 + 1)), h.2) (ak_qv Q X) := by
        intro h hf h34 h32 h36
        rw [h32, ak_wj (show j < 1000000 by omega)]
        refine ih (j + 1) _ (by omega) (by omega) hall2 hE3 (ak_rfr_up hf (by omega) (by omega)) (by simp [am_up, h34]) (by simp [am_up]) (fun q => ?_)
        show am_up h.1 110 32 ((j + 1 : Nat) : Int) 110 36 = _
        rw [ak_up_ne (by decide)]
        exact h36 q
      have hsub := ak_wsub hij (show j ≤ 6000 by omega)
      refine ⟨fun g => hadd h hf h34 h32 (fun q => ?_), fun g => ?_⟩
      · exfalso
        rw [h34, h32, hsub] at g
        clear hsub
        omega
      · rw [h34, h32, hsub] at g
        clear hsub
        rw [h32]
        refine am_s201 (ak_mt_fr hm hf) (fun _ => ?_) (fun z => absurd z (by omega))
        have hr := ak_nu_in (b := b) (i := i) (j - i) (fun k hk => hall (i + k) (by omega) (by omega))
        have hr2 := ak_pow10_le hr.2 (show j - i ≤ 8 by omega)
        rw [show (10 : Int) ^ 8 = 100000000 by decide] at hr2
        have e36 := h36 (by omega)
        rw [hmod, e36, ak_w10 ⟨hr.1, hr2⟩ hL2]
        have e5 : ak_nu b i (j - i) * 10 + (b j - 48) = ak_nu b i (j + 1 - i) := by
          rw [show j + 1 - i = (j - i) + 1 by omega, ak_nu, show i + (j - i) = j by omega]
        rw [e5]
        have hup : ∀ (f : Nat → Nat → Int) (v : Int), am_up (am_up f 110 36 v) 110 32 (am_w32 (f 110 32 + 1)) = am_up (am_up f 110 36 v) 110 32 (am_w32 (am_up f 110 36 v 110 32 + 1)) := by
          intro f v
          rw [ak_up_ne (f := f) (k := 36) (j := 32) (v := v) (by decide)]
        rw [hup]
        exact hadd (am_up h.1 110 36 (ak_nu b i (j + 1 - i)), h.2) (ak_rfr_up hf (by omega) (by omega)) (by simp [am_up, h34]) (by simp [am_up, h32]) (fun _ => by simp [am_up])
    · rw [ak_dB_mod hbj] at z
      have hjE : E = j := by rw [← hE2]; exact ak_end_no hjn z
      subst hjE
      exact fin h hf h34 h32 h36
end LEXD
