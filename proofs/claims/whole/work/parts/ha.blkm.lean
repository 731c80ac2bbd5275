/-! the run: a block begins, the other's side -/
section BLKM
variable {e : ak_X3} {d n m f' us N T0 na lb fr fh mv : Nat} {ρ : List Nat} {h h' : ak_S} {s w : Int} {X : Nat → ak_S → Prop}
/-- a block has begun at the other: n frames before, m jobs, f' its frame, T0 the values left, na arguments -/
def ak_blM (n m f' T0 na : Nat) (fr fh mv body : Int) (h h' : ak_S) : Prop :=
  (h'.1 173 f' = 1 ∧ h'.1 174 f' = 0 ∧ h'.1 175 f' = 1 ∧ h'.1 176 f' = 0 ∧ h'.1 177 f' = fr ∧ h'.1 178 f' = fh ∧ h'.1 179 f' = mv ∧ h'.1 183 f' = 0) ∧ (∀ k, k < 12 → (k < na → h'.1 184 (12 * f' + k) = h.1 199 (T0 + 1 + k) ∧ h'.2.1 185 (12 * f' + k) = h.2.1 200 (T0 + 1 + k)) ∧ (na ≤ k → h'.1 184 (12 * f' + k) = 0 ∧ h'.2.1 185 (12 * f' + k) = 0)) ∧
  (h'.1 110 103 = ((n + 1 : Nat) : Int) ∧ h'.1 110 132 = ((m + 2 : Nat) : Int) ∧ h'.1 110 102 = (f' : Int) ∧ h'.1 110 127 = (T0 : Int)) ∧ ((h'.1 201 m = 8 ∧ h'.1 202 m = (f' : Int) ∧ h'.1 203 m = h.1 110 102 ∧ h'.1 204 m = (T0 : Int)) ∧ (h'.1 201 (m + 1) = 2 ∧ h'.1 202 (m + 1) = body ∧ h'.1 203 (m + 1) = 0 ∧ h'.1 204 (m + 1) = 0)) ∧
  (∀ q k, ¬ (173 ≤ q ∧ q ≤ 183 ∧ k = f') → ¬ (q = 184 ∧ 12 * f' ≤ k ∧ k < 12 * f' + 12) → ¬ (q = 110 ∧ (k = 102 ∨ k = 103 ∨ k = 127 ∨ k = 132)) → ¬ (201 ≤ q ∧ q ≤ 204 ∧ (k = m ∨ k = m + 1)) → h'.1 q k = h.1 q k) ∧
  (∀ q k, ¬ (q = 185 ∧ 12 * f' ≤ k ∧ k < 12 * f' + 12) → h'.2.1 q k = h.2.1 q k) ∧ h'.2.2 = h.2.2
theorem am_s287 {Q : ak_S → Prop} {h1 : ak_S} (he : h1 = (am_up h.1 110 104 ((N + 1 : Nat) : Int), h.2)) (hN : h.1 110 104 = (N : Int)) (hN2 : N < 4000) (h105 : h.1 110 105 = -1) (h127 : h.1 110 127 = ((T0 + na + 1 : Nat) : Int)) (hT : T0 + na + 1 < 20000) (hna : na ≤ 4) (hus : h.1 110 3 = (us : Int)) (hus2 : us < 2) (hn : h.1 110 103 = (n : Int)) (hn2 : n ≤ 60) (hm : h.1 110 132 = (m : Int)) (hm2 : m + 1 < 370000) (hs : h.1 199 T0 = s) (hw : h.2.1 200 T0 = w) (ex : ∃ f, f < 564 ∧ h.1 173 f = 0)
    (blk : s = 3 → ∃ i : Nat, w = (i : Int) ∧ i < 500 ∧ h.1 150 i = (lb : Int) ∧ lb < 60 ∧ h.1 151 i = (fr : Int) ∧ fr < 564 ∧ h.1 178 fr = (fh : Int) ∧ h.1 179 fr = (mv : Int) ∧ h.1 173 fr ≠ 0)
    (q10 : s ≠ 3 → ak_MV e 1 (d + 3) ρ 270 [am_r 110, am_i 10] h1 Q (fun _ _ => False)) (q2 : s = 3 → h.1 136 (60 * us + lb) ≠ (na : Int) → ak_MV e 1 (d + 3) ρ 270 [am_r 110, am_i 2] h1 Q (fun _ _ => False))
    (q0 : s = 3 → h.1 136 (60 * us + lb) = (na : Int) → n = 60 → Q (am_up (am_up h1.1 110 127 (T0 : Int)) 110 105 3, h1.2)) (q1 : s = 3 → h.1 136 (60 * us + lb) = (na : Int) → n < 60 → ∀ f' h', f' < 564 → h.1 173 f' = 0 → ak_blM n m f' T0 na (fr : Int) (fh : Int) (mv : Int) (h.1 135 (60 * us + lb)) h1 h' → Q h') : ak_MV e 1 (d + 4) ρ 287 [am_r 110, am_i (na : Int)] h Q X := by
  have H1 : ∀ q k, ¬ (q = 110 ∧ k = 104) → h1.1 q k = h.1 q k := fun q k a => by rw [he]; exact ak_up_out1 a
  have H2 : h1.2 = h.2 := by rw [he]
  refine ak_MV_of (Nat.le_of_ble_eq_true rfl) (am_k287_0 (am_s267 (d := d + 2) (n := N) hN (by omega) (fun _ => ?_) (fun z => absurd z (by omega))))
  rw [← he]
  rw [H1 110 105 (by omega), H1 110 127 (by omega), H1 110 3 (by omega), h105, h127, hus]
  rw [show am_w32 (am_w32 (((T0 + na + 1 : Nat) : Int) - 1) - (na : Int)) = (T0 : Int) from by
    rw [ak_w (((T0 + na + 1 : Nat) : Int) - 1) (by omega), ak_w _ (by omega)]
    omega, ak_natn, H1 199 _ (by omega), H2, hs, hw]
  rw [show am_w32 (((T0 + na + 1 : Nat) : Int) - am_w32 ((na : Int) + 1)) = (T0 : Int) from by
    rw [ak_w ((na : Int) + 1) (by omega), ak_w _ (by omega)]
    omega, show am_w32 (((T0 + na + 1 : Nat) : Int) - (na : Int)) = ((T0 + 1 : Nat) : Int) from by
    rw [ak_w _ (by omega)]
    omega]
  refine ⟨fun _ => ⟨by omega, by omega, fun g3 => ?_, fun g3 => q10 g3⟩, fun z => absurd z (by omega)⟩
  obtain ⟨i, wi, i5, b1, b2, b3, b4, b5, b6, b7⟩ := blk g3
  rw [wi, show am_w32 (i : Int) = (i : Int) from ak_w _ (by omega), ak_natn, H1 150 _ (by omega), b1, show am_w32 (am_w32 (60 * (us : Int)) + (lb : Int)) = ((60 * us + lb : Nat) : Int) from by
    rw [ak_w (60 * (us : Int)) (by omega), ak_w _ (by omega)]
    omega, ak_natn, H1 136 _ (by omega)]
  refine ⟨by omega, by omega, fun g4 => ?_, fun g4 => q2 g3 g4⟩
  have bi : 0 ≤ (i : Int) ∧ (i : Int) < 500 := by omega
  have bf : 0 ≤ (fr : Int) ∧ (fr : Int) < 564 := by omega
  have bl : 0 ≤ ((60 * us + lb : Nat) : Int) ∧ ((60 * us + lb : Nat) : Int) < 120 := by omega
  have q1' := q1 g3 g4
  have q0' := q0 g3 g4
  clear q1 q0 q2 q10 blk
  refine am_s272 (d := d + 1) (n := n) (m := m) ((ak_up_out1 (by omega)).trans ((H1 _ _ (by omega)).trans hn)) hn2 ((ak_up_out1 (by omega)).trans ((H1 _ _ (by omega)).trans hm)) (by omega) ?_ (fun hn60 f' h2 hf hz en => ⟨fun _ => ?_, fun z => absurd z (by omega)⟩) (fun z => ⟨fun y => absurd y (by decide), fun _ => ?_⟩)
  · obtain ⟨f, hf, hz⟩ := ex
    exact ⟨f, hf, (ak_up_out1 (by omega)).trans ((H1 _ _ (by omega)).trans hz)⟩
  · obtain ⟨⟨a1, a2, a3, a4⟩, a5, ⟨a6, a7⟩, ⟨a8, a9, a10, a11⟩, a12, a13, a14⟩ := en
    have hz : h.1 173 f' = 0 := by
      rw [← H1 173 f' (by omega)]
      exact (ak_up_out1 (by omega)).symm.trans hz
    have A : ∀ q k, ¬ (173 ≤ q ∧ q ≤ 176 ∧ k = f') → ¬ (q = 184 ∧ 12 * f' ≤ k ∧ k < 12 * f' + 12) → ¬ (q = 110 ∧ (k = 103 ∨ k = 127 ∨ k = 132)) → ¬ (201 ≤ q ∧ q ≤ 204 ∧ k = m) → h2.1 q k = h1.1 q k := fun q k b1 b2 b3 b4 => (a12 q k b1 b2 (by omega) b4).trans (ak_up_out1 (by omega))
    have A127 : h2.1 110 127 = (T0 : Int) := (a12 _ _ (by omega) (by omega) (by omega) (by omega)).trans ak_up_at1
    have A10 : h2.1 203 m = h1.1 110 102 := a10.trans (ak_up_out1 (by omega))
    have A11 : h2.1 204 m = (T0 : Int) := a11.trans ak_up_at1
    have ff : fr ≠ f' := fun z => b7 (by rw [z]; exact hz)
    have bf' : 0 ≤ (f' : Int) ∧ (f' : Int) < 564 := by omega
    rw [ak_natn, A 151 _ (by omega) (by omega) (by omega) (by omega), H1 151 _ (by omega), b3, ak_natn, A 178 fr (by omega) (by omega) (by omega) (by omega), H1 178 _ (by omega), b5, A 179 fr (by omega) (by omega) (by omega) (by omega), H1 179 _ (by omega), b6]
    refine ⟨bi, bf', bi, bf, bf', bi, bf, bf', bf', ?_⟩
    -- the arguments
    have lp : ∀ (b k0 : Nat) (h3 : ak_S), k0 + b = na → (∀ k, k < 12 → (k < k0 → h3.1 184 (12 * f' + k) = h1.1 199 (T0 + 1 + k) ∧ h3.2.1 185 (12 * f' + k) = h1.2.1 200 (T0 + 1 + k)) ∧ (k0 ≤ k → h3.1 184 (12 * f' + k) = 0 ∧ h3.2.1 185 (12 * f' + k) = 0)) → (h3.1 177 f' = (fr : Int) ∧ h3.1 178 f' = (fh : Int) ∧ h3.1 179 f' = (mv : Int) ∧ h3.1 183 f' = 0) →
        (∀ q k, ¬ ((q = 177 ∨ q = 178 ∨ q = 179 ∨ q = 183) ∧ k = f') → ¬ (q = 184 ∧ 12 * f' ≤ k ∧ k < 12 * f' + 12) → h3.1 q k = h2.1 q k) → (∀ q k, ¬ (q = 185 ∧ 12 * f' ≤ k ∧ k < 12 * f' + 12) → h3.2.1 q k = h2.2.1 q k) → h3.2.2 = h2.2.2 →
        ak_W0 e 1 (d + 3) 287 ρ 178 [some (am_r 110), some (am_i (na : Int)), none, none, some (am_i ((60 * us + lb : Nat) : Int)), some (am_i ((T0 + 1 : Nat) : Int)), some (am_i (f' : Int)), some (am_i (k0 : Int))] [] h3 (ak_qv Q X) := by
      intro b
      induction b with
      | zero =>
        intro k0 h3 hk w1 w2 w3 w4 w5
        have : k0 = na := by omega
        subst this
        have O : ∀ q k, ¬ (173 ≤ q ∧ q ≤ 183 ∧ k = f') → ¬ (q = 184 ∧ 12 * f' ≤ k ∧ k < 12 * f' + 12) → ¬ (q = 110 ∧ (k = 103 ∨ k = 127 ∨ k = 132)) → ¬ (201 ≤ q ∧ q ≤ 204 ∧ k = m) → h3.1 q k = h1.1 q k := fun q k c1 c2 c3 c4 => (w3 q k (by omega) c2).trans (A q k (by omega) c2 c3 c4)
        refine am_k287_178 ⟨fun _ => ?_, fun z => absurd z (by omega)⟩
        rw [ak_natn, O 135 _ (by omega) (by omega) (by omega) (by omega), H1 135 _ (by omega)]
        refine ⟨bl, am_s266 (d := d + 2) (n := m + 1) ((ak_up_out1 (by omega)).trans ((w3 _ _ (by omega) (by omega)).trans a7)) hm2 ?_⟩
        have P : ∀ q k, ¬ (q = 110 ∧ (k = 102 ∨ k = 132)) → ¬ (201 ≤ q ∧ q ≤ 204 ∧ k = m + 1) → (ak_jbM (am_up h3.1 110 102 (f' : Int), h3.2) (m + 1) 2 (h.1 135 (60 * us + lb)) 0 0).1 q k = h3.1 q k := fun q k c1 c2 => (ak_jb_out (by omega) c2).trans (ak_up_out1 (by omega))
        have P1 : (ak_jbM (am_up h3.1 110 102 (f' : Int), h3.2) (m + 1) 2 (h.1 135 (60 * us + lb)) 0 0).1 110 102 = (f' : Int) := (ak_jb_out (by omega) (by omega)).trans ak_up_at1
        have P0 : (ak_jbM (am_up h3.1 110 102 (f' : Int), h3.2) (m + 1) 2 (h.1 135 (60 * us + lb)) 0 0).1 110 132 = ((m + 1 + 1 : Nat) : Int) := ak_jb_132
        have P2 : (ak_jbM (am_up h3.1 110 102 (f' : Int), h3.2) (m + 1) 2 (h.1 135 (60 * us + lb)) 0 0).1 201 (m + 1) = 2 ∧ (ak_jbM (am_up h3.1 110 102 (f' : Int), h3.2) (m + 1) 2 (h.1 135 (60 * us + lb)) 0 0).1 202 (m + 1) = h.1 135 (60 * us + lb) ∧ (ak_jbM (am_up h3.1 110 102 (f' : Int), h3.2) (m + 1) 2 (h.1 135 (60 * us + lb)) 0 0).1 203 (m + 1) = 0 ∧ (ak_jbM (am_up h3.1 110 102 (f' : Int), h3.2) (m + 1) 2 (h.1 135 (60 * us + lb)) 0 0).1 204 (m + 1) = 0 := by
          unfold ak_jbM
          simp [am_up]
        have PJ : (ak_jbM (am_up h3.1 110 102 (f' : Int), h3.2) (m + 1) 2 (h.1 135 (60 * us + lb)) 0 0).2 = h3.2 := rfl
        generalize ak_jbM (am_up h3.1 110 102 (f' : Int), h3.2) (m + 1) 2 (h.1 135 (60 * us + lb)) 0 0 = h4 at P P0 P1 P2 PJ
        have B : ∀ q k, ¬ ((q = 177 ∨ q = 178 ∨ q = 179 ∨ q = 183) ∧ k = f') → ¬ (q = 184 ∧ 12 * f' ≤ k ∧ k < 12 * f' + 12) → ¬ (q = 110 ∧ (k = 102 ∨ k = 132)) → ¬ (201 ≤ q ∧ q ≤ 204 ∧ k = m + 1) → h4.1 q k = h2.1 q k := fun q k c1 c2 c3 c4 => (P q k c3 c4).trans (w3 q k c1 c2)
        obtain ⟨v1, v2, v3, v4⟩ := w2
        refine q1' hn60 f' h4 hf hz ⟨⟨?_, ?_, ?_, ?_, ?_, ?_, ?_, ?_⟩, fun k hk => ?_, ⟨?_, P0, P1, ?_⟩, ⟨⟨?_, ?_, ?_, ?_⟩, P2⟩, fun q k c1 c2 c3 c4 => (P q k (by omega) (by omega)).trans (O q k c1 c2 (by omega) (by omega)), fun q k c1 => ?_, ?_⟩
        · rw [B _ _ (by omega) (by omega) (by omega) (by omega)]; exact a1
        · rw [B _ _ (by omega) (by omega) (by omega) (by omega)]; exact a2
        · rw [B _ _ (by omega) (by omega) (by omega) (by omega)]; exact a3
        · rw [B _ _ (by omega) (by omega) (by omega) (by omega)]; exact a4
        · rw [P _ _ (by omega) (by omega)]; exact v1
        · rw [P _ _ (by omega) (by omega)]; exact v2
        · rw [P _ _ (by omega) (by omega)]; exact v3
        · rw [P _ _ (by omega) (by omega)]; exact v4
        · rw [P _ _ (by omega) (by omega), PJ]; exact w1 k hk
        · rw [B _ _ (by omega) (by omega) (by omega) (by omega)]; exact a6
        · rw [B _ _ (by omega) (by omega) (by omega) (by omega)]; exact A127
        · rw [B _ _ (by omega) (by omega) (by omega) (by omega)]; exact a8
        · rw [B _ _ (by omega) (by omega) (by omega) (by omega)]; exact a9
        · rw [B _ _ (by omega) (by omega) (by omega) (by omega)]; exact A10
        · rw [B _ _ (by omega) (by omega) (by omega) (by omega)]; exact A11
        · rw [PJ, w4 q k c1]; exact (a13 q k c1).trans (by rw [H2])
        · rw [PJ, w5]; exact a14.trans (by rw [H2])
      | succ b ih =>
        intro k0 h3 hk w1 w2 w3 w4 w5
        have O : ∀ q k, ¬ (173 ≤ q ∧ q ≤ 183 ∧ k = f') → ¬ (q = 184 ∧ 12 * f' ≤ k ∧ k < 12 * f' + 12) → ¬ (q = 110 ∧ (k = 103 ∨ k = 127 ∨ k = 132)) → ¬ (201 ≤ q ∧ q ≤ 204 ∧ k = m) → h3.1 q k = h1.1 q k := fun q k c1 c2 c3 c4 => (w3 q k (by omega) c2).trans (A q k (by omega) c2 c3 c4)
        have OJ : ∀ q k, ¬ (q = 185 ∧ 12 * f' ≤ k ∧ k < 12 * f' + 12) → h3.2.1 q k = h1.2.1 q k := fun q k c1 => (w4 q k c1).trans ((a13 q k c1).trans (by rw [H2]))
        refine am_k287_178 ⟨fun z => absurd z (by omega), fun _ => ?_⟩
        rw [show am_w32 (((T0 + 1 : Nat) : Int) + (k0 : Int)) = ((T0 + 1 + k0 : Nat) : Int) from by rw [ak_w _ (by omega)]; omega, ak_natn, O 199 _ (by omega) (by omega) (by omega) (by omega), OJ 200 _ (by omega), ak_wj (show k0 < 1000000 by omega)]
        refine ⟨by omega, by omega, am_s274 (d := d + 2) hf (show k0 < 12 by omega) ?_⟩
        have KO : ∀ q k, ¬ (q = 184 ∧ k = 12 * f' + k0) → (ak_kwM h3 (12 * f' + k0) (h1.1 199 (T0 + 1 + k0)) (h1.2.1 200 (T0 + 1 + k0))).1 q k = h3.1 q k := fun q k c1 => ak_up_out1 c1
        have KJ : ∀ q k, ¬ (q = 185 ∧ k = 12 * f' + k0) → (ak_kwM h3 (12 * f' + k0) (h1.1 199 (T0 + 1 + k0)) (h1.2.1 200 (T0 + 1 + k0))).2.1 q k = h3.2.1 q k := fun q k c1 => ak_up_out c1
        have KV : (ak_kwM h3 (12 * f' + k0) (h1.1 199 (T0 + 1 + k0)) (h1.2.1 200 (T0 + 1 + k0))).1 184 (12 * f' + k0) = h1.1 199 (T0 + 1 + k0) ∧ (ak_kwM h3 (12 * f' + k0) (h1.1 199 (T0 + 1 + k0)) (h1.2.1 200 (T0 + 1 + k0))).2.1 185 (12 * f' + k0) = h1.2.1 200 (T0 + 1 + k0) := by
          unfold ak_kwM
          simp [am_up]
        have KK : (ak_kwM h3 (12 * f' + k0) (h1.1 199 (T0 + 1 + k0)) (h1.2.1 200 (T0 + 1 + k0))).2.2 = h3.2.2 := rfl
        generalize ak_kwM h3 (12 * f' + k0) (h1.1 199 (T0 + 1 + k0)) (h1.2.1 200 (T0 + 1 + k0)) = h4 at KO KJ KV KK
        refine ih (k0 + 1) h4 (by omega) (fun k hk => ⟨fun hk2 => ?_, fun hk2 => ?_⟩) ?_ (fun q k c1 c2 => (KO q k (by omega)).trans (w3 q k c1 c2)) (fun q k c1 => (KJ q k (by omega)).trans (w4 q k c1)) (KK.trans w5)
        · by_cases hkk : k = k0
          · subst hkk; exact KV
          · rw [KO _ _ (by omega), KJ _ _ (by omega)]; exact (w1 k hk).1 (by omega)
        · rw [KO _ _ (by omega), KJ _ _ (by omega)]; exact (w1 k hk).2 (by omega)
        · rw [KO _ _ (by omega), KO _ _ (by omega), KO _ _ (by omega), KO _ _ (by omega)]; exact w2
    refine lp na 0 _ (by omega) (fun k hk => ⟨fun y => absurd y (Nat.not_lt_zero _), fun _ => ?_⟩) ?_ (fun q k c1 c2 => ?_) (fun _ _ _ => rfl) rfl
    · exact ⟨(ak_up_out1 (by omega)).trans ((ak_up_out (by omega)).trans ((ak_up_out (by omega)).trans ((ak_up_out (by omega)).trans (a5 k hk).1))), (a5 k hk).2⟩
    · simp [am_up]
    · exact (ak_up_out1 (by omega)).trans ((ak_up_out (by omega)).trans ((ak_up_out (by omega)).trans (ak_up_out (by omega))))
  · rw [H2] at q0'
    exact q0' z
end BLKM
