/-! the run: a frame begins, the other's side -/
section BEGM
variable {e : ak_X3} {d n m f' nb us : Nat} {ρ : List Nat} {h h' : ak_S} {s w fa ho : Int} {X : Nat → ak_S → Prop}
/-- a method has begun at the other: n frames before, m jobs, f' its frame, nb beginnings before -/
def ak_bmM (us n m f' nb : Nat) (mt : Nat) (s w fa ho : Int) (h h' : ak_S) : Prop :=
  ((h'.1 173 f' = 1 ∧ h'.1 174 f' = 0 ∧ h'.1 175 f' = 1 ∧ h'.1 176 f' = 0) ∧ h'.1 177 f' = -1 ∧ h'.1 178 f' = (f' : Int) ∧ h'.1 179 f' = (mt : Int) ∧ h'.1 180 f' = s ∧ h'.2.1 181 f' = w ∧ h'.1 182 f' = (if fa = 0 then -1 else ho + 1) ∧ h'.1 183 f' = 0) ∧ (∀ k, k < 12 → h'.1 184 (12 * f' + k) = 0 ∧ h'.2.1 185 (12 * f' + k) = 0) ∧
  (h'.1 110 103 = ((n + 1 : Nat) : Int) ∧ h'.1 110 132 = ((m + 2 : Nat) : Int) ∧ h'.1 110 102 = (f' : Int)) ∧ ((h'.1 201 m = 8 ∧ h'.1 202 m = (f' : Int) ∧ h'.1 203 m = h.1 110 102 ∧ h'.1 204 m = h.1 110 127) ∧ (h'.1 201 (m + 1) = 2 ∧ h'.1 202 (m + 1) = h.1 125 (40 * us + mt) ∧ h'.1 203 (m + 1) = 0 ∧ h'.1 204 (m + 1) = 0)) ∧
  (h'.1 110 111 = ((nb + 1 : Nat) : Int) ∧ (nb < 300 → h'.1 189 nb = (mt : Int) ∧ h'.1 190 nb = s ∧ h'.2.1 191 nb = w ∧ h'.1 192 nb = fa) ∧ h'.1 186 mt = am_w32 (h.1 186 mt + 1)) ∧
  (∀ q k, ¬ (173 ≤ q ∧ q ≤ 183 ∧ k = f') → ¬ (q = 184 ∧ 12 * f' ≤ k ∧ k < 12 * f' + 12) → ¬ (q = 110 ∧ (k = 102 ∨ k = 103 ∨ k = 111 ∨ k = 132)) → ¬ (201 ≤ q ∧ q ≤ 204 ∧ (k = m ∨ k = m + 1)) → ¬ (189 ≤ q ∧ q ≤ 192 ∧ k = nb) → ¬ (q = 186 ∧ k = mt) → h'.1 q k = h.1 q k) ∧
  (∀ q k, ¬ (q = 185 ∧ 12 * f' ≤ k ∧ k < 12 * f' + 12) → ¬ (q = 181 ∧ k = f') → ¬ (q = 191 ∧ k = nb) → h'.2.1 q k = h.2.1 q k) ∧ h'.2.2 = h.2.2
theorem am_s275 {mt : Nat} {Q : Int → ak_S → Prop} (hn : h.1 110 103 = (n : Int)) (hn2 : n ≤ 60) (hm : h.1 110 132 = (m : Int)) (hm2 : m + 1 < 370000) (hb : h.1 110 111 = (nb : Int)) (hb2 : nb < 2000000000) (hmt : mt < 40) (hus : h.1 110 3 = (us : Int)) (hus2 : us < 2) (hho : -1 ≤ ho ∧ ho < 200) (ex : ∃ f, f < 564 ∧ h.1 173 f = 0)
    (q1 : n < 60 → ∀ f' h', f' < 564 → h.1 173 f' = 0 → ak_bmM us n m f' nb mt s w fa ho h h' → Q (f' : Int) h') (q0 : n = 60 → Q (-1) (am_up h.1 110 105 3, h.2)) : ak_MI e 1 (d + 3) ρ 275 [am_r 110, am_i (mt : Int), am_i s, am_l w, am_i fa, am_i ho] h Q X := by
  refine ak_MI_of (Nat.le_of_ble_eq_true rfl) (am_k275_0 (am_s272 (d := d) hn hn2 hm (by omega) ex (fun hn60 f' h1 hf hz en => ?_) (fun z => ⟨fun y => absurd y (by decide), fun _ => q0 z⟩)))
  obtain ⟨⟨a1, a2, a3, a4⟩, a5, ⟨a6, a7⟩, ⟨a8, a9, a10, a11⟩, a12, a13, a14⟩ := en
  have bf : 0 ≤ (f' : Int) ∧ (f' : Int) < 564 := by omega
  have bm : 0 ≤ (mt : Int) ∧ (mt : Int) < 40 := by omega
  -- the last part
  have L133 : ∀ h2 : ak_S, (∀ q k, ¬ (177 ≤ q ∧ q ≤ 183 ∧ k = f') → ¬ (189 ≤ q ∧ q ≤ 192 ∧ k = nb) → h2.1 q k = h1.1 q k) → (∀ q k, ¬ (q = 181 ∧ k = f') → ¬ (q = 191 ∧ k = nb) → h2.2.1 q k = h1.2.1 q k) → h2.2.2 = h1.2.2 → (h2.1 177 f' = -1 ∧ h2.1 178 f' = (f' : Int) ∧ h2.1 179 f' = (mt : Int) ∧ h2.1 180 f' = s ∧ h2.2.1 181 f' = w ∧ h2.1 182 f' = (if fa = 0 then -1 else ho + 1) ∧ h2.1 183 f' = 0) → (nb < 300 → h2.1 189 nb = (mt : Int) ∧ h2.1 190 nb = s ∧ h2.2.1 191 nb = w ∧ h2.1 192 nb = fa) →
      ak_W0 e 1 (d + 2) 275 ρ 133 [some (am_r 110), some (am_i (mt : Int)), none, none, none, none, none, some (am_i (f' : Int))] [] h2 (ak_qi Q X) := by
    intro h2 o1 o2 o3 v r
    have O : ∀ q k, ¬ (173 ≤ q ∧ q ≤ 183 ∧ k = f') → ¬ (q = 184 ∧ 12 * f' ≤ k ∧ k < 12 * f' + 12) → ¬ (q = 110 ∧ (k = 103 ∨ k = 132)) → ¬ (201 ≤ q ∧ q ≤ 204 ∧ k = m) → ¬ (189 ≤ q ∧ q ≤ 192 ∧ k = nb) → h2.1 q k = h.1 q k := fun q k a b c d' e' => (o1 q k (by omega) e').trans (a12 q k (by omega) b c d')
    refine am_k275_133 ?_
    rw [O 110 3 (by omega) (by omega) (by omega) (by omega) (by omega), hus, O 110 111 (by omega) (by omega) (by omega) (by omega) (by omega), hb, ak_natn, show am_w32 (am_w32 (40 * (us : Int)) + (mt : Int)) = ((40 * us + mt : Nat) : Int) from by
      rw [ak_w (40 * (us : Int)) (by omega), ak_w _ (by omega)]
      omega, ak_natn, O 125 _ (by omega) (by omega) (by omega) (by omega) (by omega), O 186 _ (by omega) (by omega) (by omega) (by omega) (by omega), show am_w32 ((nb : Int) + 1) = ((nb + 1 : Nat) : Int) from by rw [ak_w _ (by omega)]; omega]
    refine ⟨bm, bm, by omega, am_s266 (d := d + 1) (n := m + 1) ((ak_up_out1 (by omega)).trans ((ak_up_out (by omega)).trans ((ak_up_out (by omega)).trans ((o1 _ _ (by omega) (by omega)).trans a7)))) hm2 ?_⟩
    have P : ∀ q k, ¬ (q = 110 ∧ (k = 102 ∨ k = 111 ∨ k = 132)) → ¬ (q = 186 ∧ k = mt) → ¬ (201 ≤ q ∧ q ≤ 204 ∧ k = m + 1) → (ak_jbM (am_up (am_up (am_up h2.1 110 111 ((nb + 1 : Nat) : Int)) 186 mt (am_w32 (h.1 186 mt + 1))) 110 102 (f' : Int), h2.2) (m + 1) 2 (h.1 125 (40 * us + mt)) 0 0).1 q k = h2.1 q k := fun q k a b c => (ak_jb_out (by omega) c).trans ((ak_up_out1 (by omega)).trans ((ak_up_out b).trans (ak_up_out (by omega))))
    have P1 : (ak_jbM (am_up (am_up (am_up h2.1 110 111 ((nb + 1 : Nat) : Int)) 186 mt (am_w32 (h.1 186 mt + 1))) 110 102 (f' : Int), h2.2) (m + 1) 2 (h.1 125 (40 * us + mt)) 0 0).1 110 102 = (f' : Int) ∧ (ak_jbM (am_up (am_up (am_up h2.1 110 111 ((nb + 1 : Nat) : Int)) 186 mt (am_w32 (h.1 186 mt + 1))) 110 102 (f' : Int), h2.2) (m + 1) 2 (h.1 125 (40 * us + mt)) 0 0).1 110 111 = ((nb + 1 : Nat) : Int) ∧ (ak_jbM (am_up (am_up (am_up h2.1 110 111 ((nb + 1 : Nat) : Int)) 186 mt (am_w32 (h.1 186 mt + 1))) 110 102 (f' : Int), h2.2) (m + 1) 2 (h.1 125 (40 * us + mt)) 0 0).1 186 mt = am_w32 (h.1 186 mt + 1) ∧ (ak_jbM (am_up (am_up (am_up h2.1 110 111 ((nb + 1 : Nat) : Int)) 186 mt (am_w32 (h.1 186 mt + 1))) 110 102 (f' : Int), h2.2) (m + 1) 2 (h.1 125 (40 * us + mt)) 0 0).1 110 132 = ((m + 2 : Nat) : Int) := by
      unfold ak_jbM
      simp [am_up]
      omega
    have P2 : (ak_jbM (am_up (am_up (am_up h2.1 110 111 ((nb + 1 : Nat) : Int)) 186 mt (am_w32 (h.1 186 mt + 1))) 110 102 (f' : Int), h2.2) (m + 1) 2 (h.1 125 (40 * us + mt)) 0 0).1 201 (m + 1) = 2 ∧ (ak_jbM (am_up (am_up (am_up h2.1 110 111 ((nb + 1 : Nat) : Int)) 186 mt (am_w32 (h.1 186 mt + 1))) 110 102 (f' : Int), h2.2) (m + 1) 2 (h.1 125 (40 * us + mt)) 0 0).1 202 (m + 1) = h.1 125 (40 * us + mt) ∧ (ak_jbM (am_up (am_up (am_up h2.1 110 111 ((nb + 1 : Nat) : Int)) 186 mt (am_w32 (h.1 186 mt + 1))) 110 102 (f' : Int), h2.2) (m + 1) 2 (h.1 125 (40 * us + mt)) 0 0).1 203 (m + 1) = 0 ∧ (ak_jbM (am_up (am_up (am_up h2.1 110 111 ((nb + 1 : Nat) : Int)) 186 mt (am_w32 (h.1 186 mt + 1))) 110 102 (f' : Int), h2.2) (m + 1) 2 (h.1 125 (40 * us + mt)) 0 0).1 204 (m + 1) = 0 := by
      unfold ak_jbM
      simp [am_up]
    have PJ : (ak_jbM (am_up (am_up (am_up h2.1 110 111 ((nb + 1 : Nat) : Int)) 186 mt (am_w32 (h.1 186 mt + 1))) 110 102 (f' : Int), h2.2) (m + 1) 2 (h.1 125 (40 * us + mt)) 0 0).2 = h2.2 := rfl
    generalize ak_jbM (am_up (am_up (am_up h2.1 110 111 ((nb + 1 : Nat) : Int)) 186 mt (am_w32 (h.1 186 mt + 1))) 110 102 (f' : Int), h2.2) (m + 1) 2 (h.1 125 (40 * us + mt)) 0 0 = h3 at P P1 P2 PJ
    obtain ⟨v1, v2, v3, v4, v5, v6, v7⟩ := v
    have PO : ∀ q k, ¬ (q = 110 ∧ (k = 102 ∨ k = 111 ∨ k = 132)) → ¬ (q = 186 ∧ k = mt) → ¬ (201 ≤ q ∧ q ≤ 204 ∧ k = m + 1) → ¬ (177 ≤ q ∧ q ≤ 183 ∧ k = f') → ¬ (189 ≤ q ∧ q ≤ 192 ∧ k = nb) → h3.1 q k = h1.1 q k := fun q k a b c a' b' => (P q k a b c).trans (o1 q k a' b')
    refine q1 hn60 f' h3 hf hz ⟨⟨⟨?_, ?_, ?_, ?_⟩, ?_, ?_, ?_, ?_, ?_, ?_, ?_⟩, fun k hk => ⟨?_, ?_⟩, ⟨?_, P1.2.2.2, P1.1⟩, ⟨⟨?_, ?_, ?_, ?_⟩, P2⟩, ⟨P1.2.1, fun g => ?_, P1.2.2.1⟩, fun q k c1 c2 c3 c4 c5 c6 => (P q k (by omega) (by omega) (by omega)).trans (O q k c1 c2 (by omega) (by omega) c5), fun q k c1 c2 c3 => by rw [PJ]; exact (o2 q k c2 c3).trans (a13 q k c1), by rw [PJ, o3]; exact a14⟩
    · rw [PO _ _ (by omega) (by omega) (by omega) (by omega) (by omega)]; exact a1
    · rw [PO _ _ (by omega) (by omega) (by omega) (by omega) (by omega)]; exact a2
    · rw [PO _ _ (by omega) (by omega) (by omega) (by omega) (by omega)]; exact a3
    · rw [PO _ _ (by omega) (by omega) (by omega) (by omega) (by omega)]; exact a4
    · rw [P _ _ (by omega) (by omega) (by omega)]; exact v1
    · rw [P _ _ (by omega) (by omega) (by omega)]; exact v2
    · rw [P _ _ (by omega) (by omega) (by omega)]; exact v3
    · rw [P _ _ (by omega) (by omega) (by omega)]; exact v4
    · rw [PJ]; exact v5
    · rw [P _ _ (by omega) (by omega) (by omega)]; exact v6
    · rw [P _ _ (by omega) (by omega) (by omega)]; exact v7
    · rw [PO _ _ (by omega) (by omega) (by omega) (by omega) (by omega)]; exact (a5 k hk).1
    · rw [PJ, o2 _ _ (by omega) (by omega)]; exact (a5 k hk).2
    · rw [PO _ _ (by omega) (by omega) (by omega) (by omega) (by omega)]; exact a6
    · rw [PO _ _ (by omega) (by omega) (by omega) (by omega) (by omega)]; exact a8
    · rw [PO _ _ (by omega) (by omega) (by omega) (by omega) (by omega)]; exact a9
    · rw [PO _ _ (by omega) (by omega) (by omega) (by omega) (by omega)]; exact a10
    · rw [PO _ _ (by omega) (by omega) (by omega) (by omega) (by omega)]; exact a11
    · obtain ⟨r1, r2, r3, r4⟩ := r g
      rw [P _ _ (by omega) (by omega) (by omega), P _ _ (by omega) (by omega) (by omega), P _ _ (by omega) (by omega) (by omega), PJ]
      exact ⟨r1, r2, r3, r4⟩
  have L73 : ∀ y0 : Int, y0 = (if fa = 0 then -1 else ho + 1) → ak_W0 e 1 (d + 2) 275 ρ 73 [some (am_r 110), some (am_i (mt : Int)), some (am_i s), some (am_l w), none, some (am_i fa), none, some (am_i (f' : Int))] [am_i y0, am_i (f' : Int), am_r 182] (am_up (am_up (am_up (am_up h1.1 177 f' (-1)) 178 f' (f' : Int)) 179 f' (mt : Int)) 180 f' s, am_up h1.2.1 181 f' w, h1.2.2) (ak_qi Q X) := by
    intro y0 hy0
    have e111 : ((am_up (am_up (am_up (am_up h1.1 177 f' (-1)) 178 f' (f' : Int)) 179 f' (mt : Int)) 180 f' s, am_up h1.2.1 181 f' w, h1.2.2) : ak_S).1 110 111 = (nb : Int) := (ak_up_out1 (by omega)).trans ((ak_up_out (by omega)).trans ((ak_up_out (by omega)).trans ((ak_up_out (by omega)).trans ((a12 _ _ (by omega) (by omega) (by omega) (by omega)).trans hb))))
    refine am_k275_73 ?_
    rw [e111, ak_natn, ak_natn]
    refine ⟨bf, bf, fun g => L133 _ (fun q k a b => ?_) (fun q k a b => ak_up_out a) rfl ?_ (fun z => absurd g (by omega)), fun g => ⟨by omega, by omega, by omega, by omega, L133 _ (fun q k a b => ?_) (fun q k a b => ?_) rfl ?_ (fun _ => ?_)⟩⟩
    · exact (ak_up_out1 (by omega)).trans ((ak_up_out (by omega)).trans ((ak_up_out (by omega)).trans ((ak_up_out (by omega)).trans ((ak_up_out (by omega)).trans (ak_up_out (by omega))))))
    · rw [← hy0]; simp [am_up]
    · exact (ak_up_out1 (by omega)).trans ((ak_up_out (by omega)).trans ((ak_up_out (by omega)).trans ((ak_up_out (by omega)).trans ((ak_up_out (by omega)).trans ((ak_up_out (by omega)).trans ((ak_up_out (by omega)).trans ((ak_up_out (by omega)).trans (ak_up_out (by omega)))))))))
    · exact (ak_up_out b).trans (ak_up_out a)
    · rw [← hy0]; simp [am_up]
    · simp [am_up]
  refine ⟨fun _ => ⟨bf, bf, bf, bf, bf, fun g => ?_, fun g => ?_⟩, fun z => absurd z (by omega)⟩
  · rw [ak_natn, ak_w _ (by omega)]
    exact L73 _ (by rw [if_neg g])
  · rw [ak_natn]
    exact L73 _ (by rw [if_pos g])
end BEGM
