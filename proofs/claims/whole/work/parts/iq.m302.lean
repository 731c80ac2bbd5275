/-! the run: the call begins, the other's side -/
section M302
variable {e : ak_X3} {d us N mth : Nat} {ρ : List Nat} {x1 x2 : Int} {h hm : ak_S} {Q : Int → ak_S → Prop} {X : Nat → ak_S → Prop}
def ak_m3S (h : ak_S) : ak_S := (am_up (am_up (am_up (am_up (am_up (am_up (ak_jrM h).1 110 127 0) 110 132 0) 110 139 0) 110 103 0) 110 102 (-1)) 110 105 (-1), (ak_jrM h).2)
def ak_prM (h mS : ak_S) : Prop := (mS.1 110 102 = -1 ∧ mS.1 110 103 = 0 ∧ mS.1 110 127 = 0 ∧ mS.1 110 132 = 0 ∧ mS.1 110 139 = 0 ∧ mS.1 110 105 = -1) ∧ (mS.1 110 106 = 0 ∧ mS.2.1 110 107 = 0 ∧ mS.1 110 104 = 0 ∧ mS.1 110 108 = -1 ∧ mS.1 110 109 = 0 ∧ mS.1 110 110 = 0 ∧ mS.1 110 111 = 0) ∧
  (∀ q k, ¬ (q = 110 ∧ ((102 ≤ k ∧ k ≤ 111) ∨ k = 127 ∨ k = 132 ∨ k = 139)) → mS.1 q k = h.1 q k) ∧ (∀ q k, ¬ (q = 110 ∧ k = 107) → mS.2.1 q k = h.2.1 q k) ∧ mS.2.2 = h.2.2
theorem ak_m3S_p : ak_prM h (ak_m3S h) := by
  refine ⟨?_, ?_, fun q k a => ?_, fun q k a => ?_, rfl⟩
  · unfold ak_m3S ak_jrM
    simp [am_up]
  · unfold ak_m3S ak_jrM
    simp [am_up]
  · unfold ak_m3S ak_jrM
    dsimp only
    iterate 12 (refine (ak_up_out (by omega)).trans ?_)
    rfl
  · show am_up h.2.1 110 107 0 q k = _
    exact ak_up_out a
theorem ak_up_self {f : Nat → Nat → Int} {q k : Nat} {v : Int} (g : f q k = v) : am_up f q k v = f := by
  funext p i
  by_cases w : p = q ∧ i = k
  · rw [w.1, w.2, ak_up_at, g]
  · exact ak_up_out w
theorem am_m302 (h4 : hm.1 110 4 = 1) (hus : hm.1 110 3 = (us : Int)) (us2 : us < 2) (hN : hm.1 122 us = (N : Int)) (hmN : mth < N) (hmth : mth < 40) (h126 : hm.1 126 (40 * us + mth) = 2) (ex : ∃ f, f < 564 ∧ hm.1 173 f = 0) :
    ∃ (mS : ak_S) (f' : Nat) (hmF : ak_S), ak_prM (ak_no hm 0) mS ∧ f' < 564 ∧ hm.1 173 f' = 0 ∧ ak_mtM us 0 0 f' 0 0 2 mth 2 0 0 (-1) 0 (fun _ => 1) (fun k => if k = 0 then x1 else x2) mS hmF ∧
      ∀ (hmE : ak_S) (Q : Int → ak_S → Prop), ak_mgo e (d + 40) ρ hmF hmE → (hmE.1 110 132 ≤ 0 ∨ 0 ≤ hmE.1 110 105) → (0 ≤ hmE.1 110 105 → ak_W0 e 1 (d + 41) 302 ρ 139 [some (am_r 110), none, none, none, none, none, none, none] [] hmE (ak_qi Q ak_F)) →
        (hmE.1 110 105 < 0 → ak_W0 e 1 (d + 41) 302 ρ 139 [some (am_r 110), none, none, none, none, none, none, none] [] (am_up hmE.1 110 105 0, hmE.2) (ak_qi Q ak_F)) → ak_MI e 1 (d + 42) ρ 302 [am_r 110, am_i (mth : Int), am_l x1, am_l x2] hm Q ak_F := by
  have p := ak_m3S_p (h := ak_no hm 0)
  obtain ⟨mS, eS⟩ : ∃ mS, mS = ak_m3S (ak_no hm 0) := ⟨_, rfl⟩
  rw [← eS] at p
  have pp := p
  obtain ⟨⟨p1, p2, p3, p4, p5, p6⟩, ⟨s1, s2, s3, s4, s5, s6, s7⟩, pO, pJ, pC⟩ := p
  have N0 : ∀ q k, ¬ (q = 110 ∧ k = 0) → (ak_no hm 0).1 q k = hm.1 q k := fun q k a => ak_up_out1 a
  have O : ∀ q k, ¬ (q = 110 ∧ (k = 0 ∨ (102 ≤ k ∧ k ≤ 111) ∨ k = 127 ∨ k = 132 ∨ k = 139)) → mS.1 q k = hm.1 q k := fun q k a => (pO q k (by omega)).trans (N0 q k (by omega))
  have key : ak_MI e 1 (d + 41) ρ 275 [am_r 110, am_i (mth : Int), am_i 2, am_l 0, am_i 0, am_i (-1)] mS (fun v h1 => ∃ f' : Nat, v = (f' : Int) ∧ f' < 564 ∧ mS.1 173 f' = 0 ∧ ak_bmM us 0 0 f' 0 mth 2 0 0 (-1) mS h1) (fun _ _ => False) := by
    refine am_s275 (d := d + 38) (n := 0) (m := 0) (nb := 0) (us := us) p2 (by decide) p4 (by decide) s7 (by decide) hmth ((O _ _ (by omega)).trans hus) us2 (by decide) ?_ (fun _ f' h' a b c => ⟨f', rfl, a, b, c⟩) (fun z => absurd z (by decide))
    obtain ⟨f, f1, f2⟩ := ex
    exact ⟨f, f1, (O _ _ (by omega)).trans f2⟩
  obtain ⟨v, h1, ⟨f', ev, hf, hz, bm⟩, go⟩ := ak_MI_ex key
  have es : ((am_up mS.1 110 127 ((0 : Nat) : Int), mS.2) : ak_S) = mS := Prod.ext (show am_up mS.1 110 127 ((0 : Nat) : Int) = mS.1 from ak_up_self p3) rfl
  have bm' : ak_bmM us 0 0 f' 0 mth 2 0 0 (-1) ((am_up mS.1 110 127 ((0 : Nat) : Int), mS.2) : ak_S) h1 := by rw [es]; exact bm
  refine ⟨mS, f', ak_kwM (ak_kwM h1 (12 * f' + 0) 1 x1) (12 * f' + 1) 1 x2, pp, hf, (O _ _ (by omega)).symm.trans hz, ak_mtM_of bm' (fun k' hk' => ?_) ?_ (fun q k' a1 a2 => ?_) (fun q k' a1 => ?_) rfl (by decide), fun hmE Q gM hE q1 q2 => ?_⟩
  · rcases (show k' = 0 ∨ k' = 1 by omega) with rfl | rfl
    · unfold ak_kwM
      simp [am_up]
    · unfold ak_kwM
      simp [am_up]
  · exact (ak_kwM_o (by omega)).trans ((ak_kwM_o (by omega)).trans bm.1.1.2.2.2)
  · exact (ak_kwM_o (by omega)).trans (ak_kwM_o (by omega))
  · exact (ak_kwM_J (by omega)).trans (ak_kwM_J (by omega))
  · refine ak_MI_of (Nat.le_of_ble_eq_true rfl) (am_k302_0 ⟨fun _ => ⟨fun z => absurd z (by omega), fun _ => ?_⟩, fun z => absurd z (by omega)⟩)
    rw [hus, ak_natn, hN, show am_w32 (am_w32 (40 * (us : Int)) + (mth : Int)) = ((40 * us + mth : Nat) : Int) from by
      rw [ak_w (40 * (us : Int)) (by omega), ak_w _ (by omega)]
      omega, ak_natn, h126]
    refine ⟨by omega, fun z => absurd z (by omega), fun _ => ⟨by omega, fun _ => am_s264 (d := d + 40) ?_, fun z => absurd rfl z⟩⟩
    show ak_MI e 1 (d + 41) ρ 275 [am_r 110, am_i (mth : Int), am_i 2, am_l 0, am_i 0, am_i (-1)] (ak_m3S (ak_no hm 0)) _ _
    rw [← eS]
    refine go _ _ ?_
    rw [ev]
    exact am_s274 (d := d + 40) (slot := 0) hf (by decide) (am_s274 (d := d + 40) (slot := 1) hf (by decide) (ak_MV_of (Nat.le_of_ble_eq_true rfl) (gM _ _ (am_k298_0 ⟨fun _ => ⟨q1, q2⟩, fun y => ⟨fun _ => ⟨q1, q2⟩, fun z => absurd hE (by omega)⟩⟩))))
end M302
