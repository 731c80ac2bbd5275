/-! a text, both sides at once: the methods one behind another; the tape read as a text -/
section LKTX
variable {e : ak_X3} {d dd dm u p : Nat} {b : Nat → Int} {n m lv o Mt : Nat} {D : Nat → Nat} {z z0 z' z1 z2 : Nat → Nat} {hc hm hc0 hm0 hc' hm' hc1 hm1 hc2 hm2 hcx hmx : ak_S} {ρ ρ2 : List Nat}
theorem lk_text {ρ0 ρ3 ρ4 : Nat} {B : (Int → ak_S → Prop) → (Nat → ak_S → Prop) → Prop} (hu : u = 0 ∨ u = 1) (h38 : hm0.1 110 38 = 0) :
    ∀ (c Mt : Nat) (z : Nat → Nat) (hc hm : ak_S), ak_PM u p b n m Mt z hc hm → ak_POT b n 0 0 z → ak_PRG u p Mt z hc hm → ak_fm u p hc0 hm0 hc hm → m + 1 ≤ z 0 + c → Mt ≤ 40 →
      (∀ (Q : Int → ak_S → Prop) (X : Nat → ak_S → Prop), ak_MV e 1 (d + 440) ρ2 236 [am_r 110] hm (fun h2 => ak_W0 e 1 (d + 440) 237 ρ2 148 [some (am_r 110), none] [] h2 (ak_qi Q X)) (fun _ _ => False) → B Q X) →
      ak_W0 e 0 (d + 440) 13 [ρ0, ak_T u, ak_T u + 1, ρ3, ρ4] 2 [some (am_r 2), some (am_i (Mt : Int))] [] hc (ak_qv (fun hc' => ∃ (Mt' : Nat) (z' : Nat → Nat) (hm' : ak_S), ak_PM u p b n m Mt' z' hc' hm' ∧ 1 ≤ Mt' ∧ ak_POT b n 0 0 z' ∧ ak_PRG u p Mt' z' hc' hm' ∧ ak_fm u p hc0 hm0 hc' hm' ∧ (∀ (Q : Int → ak_S → Prop) (X : Nat → ak_S → Prop), ak_W0 e 1 (d + 440) 237 ρ2 169 [some (am_r 110), none] [] hm' (ak_qi Q X) → B Q X))
        (fun ex hc' => ex = 0 ∧ ∃ hm' : ak_S, ak_WR u p hc0 hm0 hc' hm' ∧ (∀ (Q : Int → ak_S → Prop) (X : Nat → ak_S → Prop), ak_W0 e 1 (d + 440) 237 ρ2 169 [some (am_r 110), none] [] hm' (ak_qi Q X) → B Q X))) := by
  intro c
  induction c with
  | zero =>
    intro Mt z hc hm w pt G fm hc0 hM run
    have := w.1.1.1
    omega
  | succ c ih =>
    intro Mt z hc hm w pt G fm hc0 hM run
    refine am_k13_2 hu ⟨fun q => absurd q (by omega), fun _ => ak_MV_imp (lk_method (d := d) (ρ := ρ2) hu w pt G) (fun hc1 R => ?_) (fun ex hcx R => ?_)⟩
    · obtain ⟨z1, hm1, w1, l1, pt1, G1, fm1, hM1, go1⟩ := R
      have hkC := w1.1.2.2.2.2.1
      have tk := w1.2.1.2.2.1
      have hf := w1.2.2.1
      have fm2 := ak_fm_trans fm fm1
      rw [hkC, ak_wj (show Mt < 1000000 by omega)]
      refine ⟨fun n0 => ih (Mt + 1) z1 hc1 hm1 w1 pt1 G1 fm2 (by omega) (by omega) (fun Q X g => run Q X (go1 _ _ (am_k237_148 (am_s206 (fun _ => ⟨fun q => absurd rfl q, fun _ => ⟨fun q => absurd (tk.symm.trans q) n0, fun _ => g⟩⟩) (fun q => absurd q (Int.not_le.mpr hf)))))), fun k0 => ?_⟩
      exact ⟨Mt + 1, z1, hm1, w1, by omega, pt1, G1, fm2, fun Q X g => run Q X (go1 _ _ (am_k237_148 (am_s206 (fun _ => ⟨fun q => absurd rfl q, fun _ => ⟨fun _ => g, fun q => absurd (tk.trans k0) q⟩⟩) (fun q => absurd q (Int.not_le.mpr hf)))))⟩
    · obtain ⟨hx, hmx, wr, go1⟩ := R
      exact ⟨hx, hmx, ak_WR_fm fm h38 (by rw [w.2.2.2.1]; exact Int.le_refl _) wr, fun Q X g => run Q X (go1 _ _ (am_k237_148 (am_w206 wr.1 ⟨fun _ => g, fun q => absurd q (by decide)⟩)))⟩
/-- what the other changes when it takes a text on -/
def ak_pL (p q k : Nat) : Prop := ak_pmI p q k ∨ (q = 110 ∧ (k = 0 ∨ k = 2 ∨ k = 31)) ∨ (q = 112 ∧ 6000 * p ≤ k ∧ k < 6000 * p + 6000) ∨ (q = 113 ∧ k = p)
/-- the other's side up to its first method -/
theorem am_front {us : Nat} (hus : hm.1 110 3 = (us : Int)) (hp : p + us = 1) (hn : hm.1 110 2 = (n : Int)) (hn2 : n ≤ 6000) (hb : ∀ k, k < n → hm.1 111 k = b k % 256 ∧ -128 ≤ b k ∧ b k < 128) (hkeys : ∀ k, k < 192 → hm.1 137 k = ak_keys.getD k 0) :
    ∃ h1 : ak_S, ak_cm b n p h1 0 ∧ h1.1 110 37 < 0 ∧ h1.1 110 38 = 0 ∧ h1.1 110 2 = 0 ∧ h1.1 110 0 = 0 ∧ h1.1 121 p = 0 ∧ h1.1 122 p = 0 ∧ h1.1 127 p = 0 ∧ h1.1 131 p = 1 ∧ h1.1 134 p = 0 ∧ (∀ q k, ¬ ak_pL p q k → h1.1 q k = hm.1 q k) ∧ h1.2 = hm.2 ∧
      ∀ (Q : Int → ak_S → Prop) (X : Nat → ak_S → Prop), ak_MV e 1 (d + 3) ρ 236 [am_r 110] h1 (fun h2 => ak_W0 e 1 (d + 3) 237 ρ 148 [some (am_r 110), none] [] h2 (ak_qi Q X)) (fun _ _ => False) → ak_MI e 1 (d + 4) ρ 237 [am_r 110] hm Q X := by
  have hp2 : p < 2 := by omega
  have b1 : 0 ≤ (p : Int) ∧ (p : Int) < 2 := by omega
  have ep : am_w32 (1 - (us : Int)) = (p : Int) := by rw [ak_w _ (by omega)]; omega
  -- the copied part
  have fin : ∀ (h : ak_S), h.1 110 31 = (p : Int) → h.1 110 2 = (n : Int) → h.1 113 p = (n : Int) → h.1 110 0 = 0 → (∀ k, k < n → h.1 112 (6000 * p + k) = b k % 256) → (∀ q k, ¬ ak_pL p q k → h.1 q k = hm.1 q k) → h.2 = hm.2 →
      (∀ (Q : Int → ak_S → Prop) (X : Nat → ak_S → Prop), ak_W0 e 1 (d + 3) 237 ρ 30 [some (am_r 110), some (am_i (n : Int))] [] h (ak_qi Q X) → ak_MI e 1 (d + 4) ρ 237 [am_r 110] hm Q X) →
      ∃ h1 : ak_S, ak_cm b n p h1 0 ∧ h1.1 110 37 < 0 ∧ h1.1 110 38 = 0 ∧ h1.1 110 2 = 0 ∧ h1.1 110 0 = 0 ∧ h1.1 121 p = 0 ∧ h1.1 122 p = 0 ∧ h1.1 127 p = 0 ∧ h1.1 131 p = 1 ∧ h1.1 134 p = 0 ∧ (∀ q k, ¬ ak_pL p q k → h1.1 q k = hm.1 q k) ∧ h1.2 = hm.2 ∧
      ∀ (Q : Int → ak_S → Prop) (X : Nat → ak_S → Prop), ak_MV e 1 (d + 3) ρ 236 [am_r 110] h1 (fun h2 => ak_W0 e 1 (d + 3) 237 ρ 148 [some (am_r 110), none] [] h2 (ak_qi Q X)) (fun _ _ => False) → ak_MI e 1 (d + 4) ρ 237 [am_r 110] hm Q X := by
    intro h h31 h2 h113 h0 h112 fr frr run
    have f : ∀ q k, ¬ (q = 110 ∧ (k = 2 ∨ k = 32 ∨ k = 37 ∨ k = 38 ∨ k = 42)) → ¬ (q = 121 ∧ k = p) → ¬ (q = 122 ∧ k = p) → ¬ (q = 127 ∧ k = p) → ¬ (q = 131 ∧ k = p) → ¬ (q = 134 ∧ k = p) →
        am_up (am_up (am_up (am_up (am_up (am_up (am_up (am_up (am_up (am_up h.1 110 2 0) 121 p 0) 122 p 0) 127 p 0) 131 p 1) 134 p 0) 110 37 (-1)) 110 38 0) 110 32 0) 110 42 0 q k = h.1 q k := by
      intro q k a1 a2 a3 a4 a5 a6
      rw [ak_up_out (by omega), ak_up_out (by omega), ak_up_out (by omega), ak_up_out (by omega), ak_up_out (by omega), ak_up_out (by omega), ak_up_out (by omega), ak_up_out (by omega), ak_up_out (by omega), ak_up_out (by omega)]
    generalize hG : am_up (am_up (am_up (am_up (am_up (am_up (am_up (am_up (am_up (am_up h.1 110 2 0) 121 p 0) 122 p 0) 127 p 0) 131 p 1) 134 p 0) 110 37 (-1)) 110 38 0) 110 32 0) 110 42 0 = G at f
    have v2 : G 110 2 = 0 := by rw [← hG]; simp [am_up]
    have v121 : G 121 p = 0 := by rw [← hG]; simp [am_up]
    have v122 : G 122 p = 0 := by rw [← hG]; simp [am_up]
    have v127 : G 127 p = 0 := by rw [← hG]; simp [am_up]
    have v131 : G 131 p = 1 := by rw [← hG]; simp [am_up]
    have v134 : G 134 p = 0 := by rw [← hG]; simp [am_up]
    have v37 : G 110 37 = -1 := by rw [← hG]; simp [am_up]
    have v38 : G 110 38 = 0 := by rw [← hG]; simp [am_up]
    have v32 : G 110 32 = 0 := by rw [← hG]; simp [am_up]
    have mt : ak_mt (G, h.2) p n b := by
      refine ⟨?_, hp2, ?_, hn2, fun k hk => ⟨?_, (hb k hk).2⟩, fun k hk => ?_⟩
      · show G 110 31 = _
        rw [f _ _ (by omega) (by omega) (by omega) (by omega) (by omega) (by omega)]; exact h31
      · show G 113 p = _
        rw [f _ _ (by omega) (by omega) (by omega) (by omega) (by omega) (by omega)]; exact h113
      · show G 112 _ = _
        rw [f _ _ (by omega) (by omega) (by omega) (by omega) (by omega) (by omega)]; exact h112 k hk
      · show G 137 k = _
        rw [f _ _ (by omega) (by omega) (by omega) (by omega) (by omega) (by omega), fr 137 k (by unfold ak_pL ak_pmI; omega)]
        exact hkeys k hk
    obtain ⟨h1, R, go⟩ := ak_MV_get (e := e) (r := 1) (d := d + 3) (ρ := ρ) (am_s205 (d := d) (X := ak_F) (Q := fun h1 => ak_rdp (G, h.2) h1 b n 0) mt (Nat.zero_le _) (show (G, h.2).1 110 32 = ((0 : Nat) : Int) from v32) (fun h2 r => r))
    have fr' := R.2.2.2.2.2
    have fM : ∀ q k, ¬ (q = 110 ∧ 32 ≤ k ∧ k ≤ 36) → h1.1 q k = G q k := fr'.1
    refine ⟨h1, ak_cm_of mt rfl R, ?_, ?_, ?_, ?_, ?_, ?_, ?_, ?_, ?_, fun q k hq => ?_, fr'.2.trans frr, fun Q X g => run Q X (am_k237_30 ⟨fun _ => ?_, fun q => absurd q (by omega)⟩)⟩
    · rw [fM _ _ (by omega), v37]; decide
    · rw [fM _ _ (by omega)]; exact v38
    · rw [fM _ _ (by omega)]; exact v2
    · rw [fM _ _ (by omega), f _ _ (by omega) (by omega) (by omega) (by omega) (by omega) (by omega)]; exact h0
    · rw [fM _ _ (by omega)]; exact v121
    · rw [fM _ _ (by omega)]; exact v122
    · rw [fM _ _ (by omega)]; exact v127
    · rw [fM _ _ (by omega)]; exact v131
    · rw [fM _ _ (by omega)]; exact v134
    · have hq' := hq
      unfold ak_pL ak_pmI at hq'
      rw [fM _ _ (by omega), f _ _ (by omega) (by omega) (by omega) (by omega) (by omega) (by omega)]
      exact fr q k hq
    · rw [h31, ak_natn]
      refine ⟨b1, b1, b1, b1, b1, ?_⟩
      rw [hG]
      exact go _ _ g
  -- copying
  have copy : ∀ (c x : Nat) (h : ak_S), x + c = n → h.1 110 31 = (p : Int) → h.1 110 2 = (n : Int) → h.1 113 p = (n : Int) → h.1 110 0 = 0 → (∀ k, k < x → h.1 112 (6000 * p + k) = b k % 256) → (∀ q k, ¬ ak_pL p q k → h.1 q k = hm.1 q k) → h.2 = hm.2 →
      (∀ (Q : Int → ak_S → Prop) (X : Nat → ak_S → Prop), ak_W0 e 1 (d + 3) 237 ρ 30 [some (am_r 110), some (am_i (x : Int))] [] h (ak_qi Q X) → ak_MI e 1 (d + 4) ρ 237 [am_r 110] hm Q X) →
      ∃ h' : ak_S, h'.1 110 31 = (p : Int) ∧ h'.1 110 2 = (n : Int) ∧ h'.1 113 p = (n : Int) ∧ h'.1 110 0 = 0 ∧ (∀ k, k < n → h'.1 112 (6000 * p + k) = b k % 256) ∧ (∀ q k, ¬ ak_pL p q k → h'.1 q k = hm.1 q k) ∧ h'.2 = hm.2 ∧
      (∀ (Q : Int → ak_S → Prop) (X : Nat → ak_S → Prop), ak_W0 e 1 (d + 3) 237 ρ 30 [some (am_r 110), some (am_i (n : Int))] [] h' (ak_qi Q X) → ak_MI e 1 (d + 4) ρ 237 [am_r 110] hm Q X) := by
    intro c
    induction c with
    | zero =>
      intro x h hx a1 a2 a3 a4 a5 a6 a7 run
      have : x = n := by omega
      subst this
      exact ⟨h, a1, a2, a3, a4, a5, a6, a7, run⟩
    | succ c ih =>
      intro x h hx a1 a2 a3 a4 a5 a6 a7 run
      have hbx := hb x (by omega)
      have hx111 : h.1 111 x = b x % 256 := (a6 111 x (by unfold ak_pL ak_pmI; omega)).trans hbx.1
      refine ih (x + 1) (am_up h.1 112 (6000 * p + x) (b x % 256), h.2) (by omega) ((ak_up_out1 (by omega)).trans a1) ((ak_up_out1 (by omega)).trans a2) ((ak_up_out1 (by omega)).trans a3) ((ak_up_out1 (by omega)).trans a4) (fun k hk => ?_) (fun q k hq => ?_) a7 (fun Q X g => run Q X (am_k237_30 ⟨fun q => absurd q (by omega), fun _ => ?_⟩))
      · by_cases hkx : k = x
        · subst hkx
          exact ak_up_at1
        · exact (ak_up_out1 (by omega)).trans (a5 k (by omega))
      · exact (ak_up_out1 (fun g => hq (Or.inr (Or.inr (Or.inl (by omega)))))).trans (a6 q k hq)
      · rw [a1, ak_natn, show am_w32 (am_w32 (6000 * (p : Int)) + (x : Int)) = ((6000 * p + x : Nat) : Int) from ak_wmul (c := 6000) (by omega), ak_natn, hx111, ak_wj (show x < 1000000 by omega)]
        exact ⟨by omega, by omega, g⟩
  have start : ∀ (Q : Int → ak_S → Prop) (X : Nat → ak_S → Prop), ak_W0 e 1 (d + 3) 237 ρ 30 [some (am_r 110), some (am_i 0)] [] (am_up (am_up (am_up hm.1 110 0 0) 110 31 (p : Int)) 113 p (n : Int), hm.2) (ak_qi Q X) → ak_MI e 1 (d + 4) ρ 237 [am_r 110] hm Q X := by
    intro Q X g
    refine ak_MI_of (Nat.le_of_ble_eq_true rfl) (am_k237_0 ?_)
    rw [hus, ep, ak_natn, hn]
    exact ⟨b1, g⟩
  obtain ⟨h', a1, a2, a3, a4, a5, a6, a7, run⟩ := copy n 0 (am_up (am_up (am_up hm.1 110 0 0) 110 31 (p : Int)) 113 p (n : Int), hm.2) (by omega) (by simp [am_up]) (by rw [← hn]; simp [am_up]) (by simp [am_up]) (by simp [am_up]) (fun k hk => absurd hk (Nat.not_lt_zero _)) (fun q k hq => by
    have hq' := hq
    unfold ak_pL at hq'
    exact (ak_up_out1 (by omega)).trans ((ak_up_out (by omega)).trans (ak_up_out (by omega)))) rfl start
  exact fin h' a1 a2 a3 a4 a5 a6 a7 run
end LKTX
