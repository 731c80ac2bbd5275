/-! the other's reading, whole -/
section READ
variable {e : ak_X3} {d : Nat} {ρ : List Nat} {p n : Nat} {b : Nat → Int}
theorem am_s205 {Q : ak_S → Prop} {X : Nat → ak_S → Prop} {h0 : ak_S} {j0 : Nat} (hm : ak_mt h0 p n b) (hj0 : j0 ≤ n) (h32 : h0.1 110 32 = (j0 : Int)) (w : ∀ h2, ak_rdp h0 h2 b n j0 → Q h2) : ak_MV e 1 (d + 3) ρ 205 [am_r 110] h0 Q X := by
  have hn6 : n ≤ 6000 := hm.2.2.2.1
  have lp : ∀ (c j : Nat) (h : ak_S), j + c = n → ak_end ak_wB b n j = ak_end ak_wB b n j0 → ak_rfr h0 h → h.1 110 32 = (j : Int) → ak_W0 e 1 (d + 2) 205 ρ 0 [some (am_r 110), none] [] h (ak_qv Q X) := by
    intro c
    induction c with
    | zero =>
      intro j h hj hE hf h32
      have hjn : j = n := by omega
      have hE2 : ak_end ak_wB b n j = n := by rw [hjn]; exact ak_end_ge (Nat.le_refl _)
      have f1 := ak_rfr_up (k := 34) (v := (j : Int)) hf (by omega) (by omega)
      refine am_k205_0 ?_
      rw [h32]
      refine am_s201 (ak_mt_fr hm hf) (fun z => absurd z (by omega)) (fun _ => ⟨fun z => absurd z (by decide), fun _ => ?_⟩)
      rw [h32]
      refine am_s201 (ak_mt_fr hm hf) (fun z => absurd z (by omega)) (fun _ => ⟨fun _ => ?_, fun z => absurd z (by decide)⟩)
      rw [h32]
      refine am_s201 (ak_mt_fr hm f1) (fun z => absurd z (by omega)) (fun _ => ⟨fun z => absurd z (by decide), fun _ => ?_⟩)
      refine w _ ?_
      unfold ak_rdp
      rw [← hE, hE2]
      have e1 : ak_nx b n n = n := by unfold ak_nx; rw [if_pos (Nat.le_refl _)]
      have e2 : ak_kd b n n = 0 := by unfold ak_kd; rw [if_pos (Nat.le_refl _)]
      rw [e1, e2]
      refine ⟨?_, ?_, ?_, ?_, fun z => absurd z (by omega), ak_rfr_up (ak_rfr_up f1 (by omega) (by omega)) (by omega) (by omega)⟩
      · simp [am_up, h32, hjn]
      · simp [am_up]
      · simp [am_up, hjn]
      · simp [am_up]
    | succ c ih =>
      intro j h hj hE hf h32
      have hjn : j < n := by omega
      have hbj := (hm.2.2.2.2.1 j hjn).2
      have g : b j % 256 = 10 ↔ b j = 10 := by omega
      have g2 : b j % 256 = 32 ↔ b j = 32 := by omega
      have nx1 : ak_wB (b j) = true → ak_W0 e 1 (d + 2) 205 ρ 0 [some (am_r 110), none] [] (am_up h.1 110 32 (am_w32 (h.1 110 32 + 1)), h.2) (ak_qv Q X) := by
        intro hw
        rw [h32, ak_wj (show j < 1000000 by omega)]
        exact ih (j + 1) _ (by omega) (by rw [← hE]; exact (ak_end_yes hjn hw).symm) (ak_rfr_up hf (by omega) (by omega)) (by simp [am_up])
      refine am_k205_0 ?_
      rw [h32]
      refine am_s201 (ak_mt_fr hm hf) (fun _ => ⟨fun z => ?_, fun z => ?_⟩) (fun z => absurd z (by omega))
      · have := nx1 (ak_wB_iff.mpr (Or.inl (g.mp z)))
        rw [h32] at this ⊢
        exact this
      rw [h32]
      refine am_s201 (ak_mt_fr hm hf) (fun _ => ⟨fun z2 => ?_, fun z2 => ?_⟩) (fun z => absurd z (by omega))
      rotate_left
      · have := nx1 (ak_wB_iff.mpr (Or.inr (g2.mp z2)))
        rw [h32] at this ⊢
        exact this
      have hw : ¬ ak_wB (b j) = true := fun q => (ak_wB_iff.mp q).elim (fun q => z (g.mpr q)) (fun q => z2 (g2.mpr q))
      have hE2 : ak_end ak_wB b n j = j := ak_end_no hjn hw
      have hE3 : ak_end ak_wB b n j0 = j := by rw [← hE]; exact hE2
      have hnx := ak_nx_le (b := b) hjn
      have f1 := ak_rfr_up (k := 34) (v := (j : Int)) hf (by omega) (by omega)
      have q34 : am_up h.1 110 34 (j : Int) 110 34 = (j : Int) := by simp [am_up]
      have q32 : am_up h.1 110 34 (j : Int) 110 32 = (j : Int) := by simp [am_up, h32]
      rw [h32]
      refine am_s201 (ak_mt_fr hm f1) (fun _ => ⟨fun _ => ?_, fun z => absurd z (by omega)⟩) (fun z => absurd z (by omega))
      refine am_s202 (fun hp => ⟨fun z => absurd z (by decide), fun _ => ?_⟩) (fun hp => ⟨fun _ => ?_, fun z => absurd rfl z⟩)
      · -- a word
        rw [ak_lB_mod hbj] at hp
        have hd : ¬ ak_dB (b j) = true := by
          rw [ak_dB_iff]; rw [ak_lB_iff] at hp; unfold ak_isD; unfold ak_isL at hp; omega
        have e3 : ak_kd b n j = if 8 < ak_end ak_lB b n j - j then 1 else ak_kidx (ak_pk b j (ak_end ak_lB b n j - j)) ak_kws 0 := by
          unfold ak_kd; rw [if_neg (by omega), if_pos hp]
        have e4 : ak_nx b n j = ak_end ak_lB b n j := by unfold ak_nx; rw [if_neg (by omega), if_pos hp]
        refine am_l205_78 hm hjn hp (fun h2 k1 k2 k3 k4 k5 => w h2 ?_) (n - j) j _ (by omega) (Nat.le_refl _) (fun k a1 a2 => absurd a1 (by omega)) rfl f1 q34 q32
        unfold ak_rdp
        rw [hE3, e3, e4]
        exact ⟨k2, k3, k4, k5, fun _ z => absurd z hd, k1⟩
      · refine am_s203 (fun hp2 => ⟨fun z => absurd z (by decide), fun _ => ?_⟩) (fun hp2 => ⟨fun _ => ?_, fun z => absurd rfl z⟩)
        · -- a numeral
          rw [ak_lB_mod hbj] at hp
          rw [ak_dB_mod hbj] at hp2
          have e3 : ak_kd b n j = if 9 < ak_end ak_dB b n j - j then 1 else 3 := by
            unfold ak_kd; rw [if_neg (by omega), if_neg hp, if_pos hp2]
          have e4 : ak_nx b n j = ak_end ak_dB b n j := by unfold ak_nx; rw [if_neg (by omega), if_neg hp, if_pos hp2]
          refine am_l205_152 hm hjn (fun h2 k1 k2 k3 k4 k5 k6 => w h2 ?_) (n - j) j _ (by omega) (Nat.le_refl _) (fun k a1 a2 => absurd a1 (by omega)) rfl (ak_rfr_up f1 (by omega) (by omega)) (by simp [am_up]) (by simp [am_up, h32]) (fun _ => by rw [Nat.sub_self]; simp [am_up, ak_nu])
          unfold ak_rdp
          rw [hE3, e3, e4]
          exact ⟨k2, k3, k4, k5, fun _ _ => k6, k1⟩
        · -- a sign
          rw [ak_lB_mod hbj] at hp
          rw [ak_dB_mod hbj] at hp2
          have hsg : (b j % 256 ∈ ak_sgs ↔ ak_sgs.elem (b j) = true) ∧ (b j % 256 ∈ ak_sgs → b j % 256 = b j) := by
            have hall : ∀ y ∈ ak_sgs, 0 < y ∧ y < 128 := by decide
            refine ⟨⟨fun q => ?_, fun q => ?_⟩, fun q => ?_⟩
            · have := hall _ q
              have e1 : b j % 256 = b j := by omega
              rw [e1] at q
              exact List.elem_iff.mpr q
            · have q2 := List.elem_iff.mp q
              have := hall _ q2
              have e1 : b j % 256 = b j := by omega
              rw [e1]; exact q2
            · have := hall _ q; omega
          have p61 : b j % 256 = 61 ↔ b j = 61 := by omega
          dsimp only
          rw [q32, ak_wj (show j < 1000000 by omega)]
          have f3 := ak_rfr_up (k := 33) (v := 1) (ak_rfr_up (k := 32) (v := ((j + 1 : Nat) : Int)) f1 (by omega) (by omega)) (by omega) (by omega)
          have l300 : ¬ (b j = 61 ∧ j + 1 < n ∧ b (j + 1) = 61) → ak_W0 e 1 (d + 2) 205 ρ 300 [some (am_r 110), some (am_i (b j % 256))] [] (am_up (am_up (am_up h.1 110 34 (j : Int)) 110 32 ((j + 1 : Nat) : Int)) 110 33 1, h.2) (ak_qv Q X) := by
            intro hno
            have e3 : ak_kd b n j = if ak_sgs.elem (b j) = true then b j else 1 := by
              unfold ak_kd; rw [if_neg (by omega), if_neg hp, if_neg hp2, if_neg hno]
            have e4 : ak_nx b n j = j + 1 := by unfold ak_nx; rw [if_neg (by omega), if_neg hp, if_neg hp2, if_neg hno]
            refine am_l205_300 (i := j) (j := j + 1) (by simp [am_up]) (by simp [am_up]) (by omega) (by omega) (fun q => w _ ?_) (fun q => w _ ?_)
            · unfold ak_rdp
              rw [hE3, e3, e4, if_pos (hsg.1.mp q)]
              refine ⟨?_, ?_, ?_, ?_, fun _ z => absurd z hp2, ak_rfr_up (ak_rfr_up f3 (by omega) (by omega)) (by omega) (by omega)⟩
              · simp [am_up]
              · rw [← hsg.2 q]; simp [am_up]
              · simp [am_up]
              · simp [am_up]
            · unfold ak_rdp
              rw [hE3, e3, e4, if_neg (fun z => q (hsg.1.mpr z))]
              refine ⟨?_, ?_, ?_, ?_, fun _ z => absurd z hp2, ak_rfr_up f3 (by omega) (by omega)⟩
              · simp [am_up]
              · simp [am_up]
              · simp [am_up]
              · simp [am_up]
          refine ⟨fun q => l300 (fun r => q (p61.mpr r.1)), fun q => ?_⟩
          refine am_s201 (ak_mt_fr hm f3) (fun hj1 => ?_) (fun hj1 => ⟨fun _ => l300 (fun r => absurd r.2.1 (by omega)), fun z => absurd z (by decide)⟩)
          have hb1 := (hm.2.2.2.2.1 (j + 1) hj1).2
          refine ⟨fun q2 => l300 (fun r => q2 (by rw [r.2.2]; decide)), fun q2 => ?_⟩
          have hyes : b j = 61 ∧ j + 1 < n ∧ b (j + 1) = 61 := ⟨p61.mp q, hj1, by omega⟩
          have e3 : ak_kd b n j = 4 := by unfold ak_kd; rw [if_neg (by omega), if_neg hp, if_neg hp2, if_pos hyes]
          have e4 : ak_nx b n j = j + 2 := by unfold ak_nx; rw [if_neg (by omega), if_neg hp, if_neg hp2, if_pos hyes]
          have r32 : am_up (am_up (am_up h.1 110 34 (j : Int)) 110 32 ((j + 1 : Nat) : Int)) 110 33 1 110 32 = ((j + 1 : Nat) : Int) := by simp [am_up]
          have r34 : am_up (am_up (am_up h.1 110 34 (j : Int)) 110 32 ((j + 1 : Nat) : Int)) 110 33 1 110 34 = (j : Int) := by simp [am_up]
          dsimp only
          rw [r32, r34, ak_wj (show j + 1 < 1000000 by omega), ak_wsub (show j ≤ j + 1 + 1 by omega) (by omega)]
          refine w _ ?_
          unfold ak_rdp
          rw [hE3, e3, e4]
          refine ⟨?_, ?_, ?_, ?_, fun _ z => absurd z hp2, ak_rfr_up (ak_rfr_up (ak_rfr_up f3 (by omega) (by omega)) (by omega) (by omega)) (by omega) (by omega)⟩
          · rw [show j + 2 = j + 1 + 1 by omega]; simp [am_up]
          · simp [am_up]
          · simp [am_up]
          · rw [show j + 2 - j = j + 1 + 1 - j by omega]; simp [am_up]
  exact ak_MV_of (Nat.le_of_ble_eq_true rfl) (lp (n - j0) j0 h0 (by omega) rfl ak_rfr_refl h32)
end READ
