/-! the run: an on, an ensure takes over; a guard is dropped -/
section LVD
variable {e : ak_X3} {d ρ1 ρ2 P : Nat} {ρ : List Nat} {c : ak_Cx} {g g' : ak_Gh} {up lo : List ak_Fr} {cur f : ak_Fr} {hmO hc hm hc' hm' hcA : ak_S} {j : ak_Jb} {r js : List ak_Jb} {aw : List Bool}
/-- a job popped with the values above its place -/
def ak_ptM (h : ak_S) (n : Nat) (t : Int) : ak_S := (am_up (am_up h.1 110 132 (n : Int)) 110 127 t, h.2)
theorem ak_ptM_o {h : ak_S} {n q k : Nat} {t : Int} (a : ¬ (q = 110 ∧ (k = 127 ∨ k = 132))) : (ak_ptM h n t).1 q k = h.1 q k := (ak_up_out (by omega)).trans (ak_up_out (by omega))
theorem ak_ptM_v {h : ak_S} {n : Nat} {t : Int} : (ak_ptM h n t).1 110 132 = (n : Int) ∧ (ak_ptM h n t).1 110 127 = t := by unfold ak_ptM; simp [am_up]
/-- the guard is dropped on both sides -/
theorem ak_lv_drop (w : ak_UI c g up cur (j :: r) lo P hmO hc hm) (hk : 9 ≤ j.k) (h139 : hm'.1 110 139 = ((ak_nK lo + ak_kc r : Nat) : Int)) (m132 : hm'.1 110 132 = ((ak_nJ lo + 1 + r.length : Nat) : Int)) (mo : ∀ q k, ¬ (q = 110 ∧ (k = 127 ∨ k = 132 ∨ k = 139)) → hm'.1 q k = hm.1 q k) (mJ : hm'.2 = hm.2) :
    ak_UI c g up cur r lo P hmO (am_up hc.1 77 4 ((ak_nG lo + ak_gc r : Nat) : Int), hc.2) hm' := by
  obtain ⟨⟨sp, nd, rw', h7, h8, hl⟩, ⟨u2, u3, u4, u5⟩, ⟨m1, m2, m3, m4, m5⟩, ⟨s1, s2, s3⟩, ⟨f0, jS, ⟨pc, sh, K⟩, jl, jg⟩, lo1, pb⟩ := w
  have CO : ∀ q k, ¬ (q = 77 ∧ k = 4) → ((am_up hc.1 77 4 ((ak_nG lo + ak_gc r : Nat) : Int), hc.2) : ak_S).1 q k = hc.1 q k := fun q k a => ak_up_out1 a
  have C4 : ((am_up hc.1 77 4 ((ak_nG lo + ak_gc r : Nat) : Int), hc.2) : ak_S).1 77 4 = ((ak_nG lo + ak_gc r : Nat) : Int) := ak_up_at1
  have CJ : ((am_up hc.1 77 4 ((ak_nG lo + ak_gc r : Nat) : Int), hc.2) : ak_S).2 = hc.2 := rfl
  generalize ((am_up hc.1 77 4 ((ak_nG lo + ak_gc r : Nat) : Int), hc.2) : ak_S) = hc1 at CO C4 CJ
  obtain ⟨pc', sh', K'⟩ := ak_K_tl K
  have ew : ak_gw r ≤ ak_gw (j :: r) := Nat.le_add_right _ _
  have eg : ak_gc r ≤ ak_gc (j :: r) := Nat.le_add_right _ _
  refine ⟨⟨ak_SP_fr sp (fun q k h => ⟨CO q k (by unfold ak_stC at h; omega), by rw [CJ]⟩) (fun _ _ _ => ⟨rfl, rfl⟩), nd, fun p f q h => ?_, (CO _ _ (by omega)).trans h7, ?_, hl⟩, ⟨C4, (CO _ _ (by omega)).trans u3, by rw [CO _ _ (by omega)]; exact u4, ?_⟩, ⟨(mo _ _ (by omega)).trans m1, m132, h139, (mo _ _ (by omega)).trans m4, (mo _ _ (by omega)).trans m5⟩,
    ⟨fun q k h h2 => (mo q k (fun z => h.1 ⟨z.1, by omega⟩)).trans (s1 q k h h2), fun q k h => by rw [mJ]; exact s2 q k h, fun y hy => by rw [mo _ _ (by omega), mo _ _ (by omega)]; exact s3 y hy⟩,
    ⟨ak_F0_fr f0 (fun _ _ => rfl) f0.1.1 rfl (fun q a b _ _ => CO q _ (by omega)) (by rw [CO _ _ (by omega), mo _ _ (by omega)]; exact f0.1.2.2.2.1) (CO _ _ (by omega)) (mo _ _ (by omega)) (fun q a b => mo _ _ (by omega)), ak_JS_fr (Nat.le_refl _) (Nat.le_refl _) (fun _ _ => rfl) jS.2.2.2 (fun q k a b _ => ⟨CO q k (by omega), by rw [CJ]⟩) (fun q k a b _ => mo q k (by omega)) (fun q k a b _ => ⟨mo q k (by omega), by rw [mJ]⟩), ⟨pc', sh', K'⟩, by rw [List.length_cons] at jl; omega, by omega⟩,
    ak_LO_kp ⟨Nat.le_refl _, Nat.le_refl _, fun y hy => ⟨((ak_LO_row lo1).2.2.1 y hy).1, rfl, rfl, rfl, rfl⟩⟩ lo1 (fun q k h => CO q k (by omega)) (fun _ _ _ => by rw [CJ]) (fun _ _ => ⟨CO _ _ (by omega), CO _ _ (by omega), by rw [CJ]⟩) (fun q k h => mo q k (by omega)) (fun q k h => by rw [mJ]), by omega⟩
  · rw [CO _ _ (by omega), CO _ _ (by omega)]; exact rw' p f q h
  · rw [CO _ _ (by omega), h8]; exact (ak_nH_fr (fun k _ => CO 76 k (by omega))).symm
  · rw [CO _ _ (by omega), CO _ _ (by omega), CO _ _ (by omega), CO _ _ (by omega), CJ, mo _ _ (by omega), mo _ _ (by omega), mo _ _ (by omega), mo _ _ (by omega), mo _ _ (by omega), mJ]; exact u5
/-- the ensure's jobs put: rows of the other -/
def ak_esM (h : ak_S) (n k : Nat) (y x t : Int) : ak_S := ak_jbM (ak_jbM (am_up (am_up (am_up (am_up (am_up (am_up h.1 205 k (h.1 110 133)) 206 k (h.1 110 134)) 207 k (h.1 110 135)) 209 k (h.1 110 137)) 210 k (h.1 110 138)) 110 139 ((k + 1 : Nat) : Int), am_up h.2.1 208 k (h.2.1 110 136), h.2.2) n 11 y 0 t) (n + 1) 2 x 0 0
theorem ak_esM_o {h : ak_S} {n k q i : Nat} {y x t : Int} (a : ¬ (q = 110 ∧ (i = 132 ∨ i = 139))) (b : ¬ (201 ≤ q ∧ q ≤ 204 ∧ (i = n ∨ i = n + 1))) (b2 : ¬ (205 ≤ q ∧ q ≤ 210 ∧ i = k)) : (ak_esM h n k y x t).1 q i = h.1 q i := by
  unfold ak_esM
  rw [ak_jb_out (by omega) (by omega), ak_jb_out (by omega) (by omega)]
  exact (ak_up_out (by omega)).trans ((ak_up_out (by omega)).trans ((ak_up_out (by omega)).trans ((ak_up_out (by omega)).trans ((ak_up_out (by omega)).trans (ak_up_out (by omega))))))
theorem ak_esM_J {h : ak_S} {n k q i : Nat} {y x t : Int} (b : ¬ (q = 208 ∧ i = k)) : (ak_esM h n k y x t).2.1 q i = h.2.1 q i := by
  unfold ak_esM ak_jbM
  exact ak_up_out b
theorem ak_esM_v {h : ak_S} {n k : Nat} {y x t : Int} : ((ak_esM h n k y x t).1 110 132 = ((n + 1 + 1 : Nat) : Int) ∧ (ak_esM h n k y x t).1 110 139 = ((k + 1 : Nat) : Int)) ∧
    ((ak_esM h n k y x t).1 201 n = 11 ∧ (ak_esM h n k y x t).1 202 n = y ∧ (ak_esM h n k y x t).1 203 n = 0 ∧ (ak_esM h n k y x t).1 204 n = t) ∧ ((ak_esM h n k y x t).1 201 (n + 1) = 2 ∧ (ak_esM h n k y x t).1 202 (n + 1) = x ∧ (ak_esM h n k y x t).1 203 (n + 1) = 0 ∧ (ak_esM h n k y x t).1 204 (n + 1) = 0) ∧
    ((ak_esM h n k y x t).1 205 k = h.1 110 133 ∧ (ak_esM h n k y x t).1 206 k = h.1 110 134 ∧ (ak_esM h n k y x t).1 207 k = h.1 110 135 ∧ (ak_esM h n k y x t).2.1 208 k = h.2.1 110 136 ∧ (ak_esM h n k y x t).1 209 k = h.1 110 137 ∧ (ak_esM h n k y x t).1 210 k = h.1 110 138) := by
  unfold ak_esM ak_jbM
  simp [am_up]
theorem am_s278 {Q : Int → ak_S → Prop} {X : Nat → ak_S → Prop} {y k n : Nat} {x t : Int} {h : ak_S} (hy : y < 18000) (hk : h.1 110 139 = (k : Int)) (hk2 : k < 2000) (hn : h.1 110 132 = (n : Int)) (hn2 : n + 1 < 370000) (ht : h.1 110 127 = t) (hx : h.1 117 y = x)
    (q1 : h.1 118 y = 1 → Q 1 (ak_esM h n k (y : Int) x t)) (q0 : h.1 118 y ≠ 1 → Q 0 h) : ak_MI e 1 (d + 2) ρ 278 [am_r 110, am_i (y : Int)] h Q X := by
  refine ak_MI_of (Nat.le_of_ble_eq_true rfl) (am_k278_0 ?_)
  have b : 0 ≤ (k : Int) ∧ (k : Int) < 2000 := by omega
  have by' : 0 ≤ (y : Int) ∧ (y : Int) < 18000 := by omega
  rw [hk, ak_natn, ak_natn, ak_wj (show k < 1000000 by omega), ht]
  refine ⟨by', fun z => ⟨b, b, b, b, b, b, am_s266 (n := n) ?_ (by omega) ⟨by', ?_⟩⟩, fun z => ⟨Or.inl rfl, q0 z⟩⟩
  · exact (ak_up_out1 (by omega)).trans ((ak_up_out (by omega)).trans ((ak_up_out (by omega)).trans ((ak_up_out (by omega)).trans ((ak_up_out (by omega)).trans ((ak_up_out (by omega)).trans hn)))))
  · refine am_s266 (n := n + 1) ak_jb_132 (by omega) ⟨Or.inr rfl, ?_⟩
    rw [ak_jb_out (by omega) (by omega)]
    have e1 : ((am_up (am_up (am_up (am_up (am_up (am_up h.1 205 k (h.1 110 133)) 206 k (h.1 110 134)) 207 k (h.1 110 135)) 209 k (h.1 110 137)) 210 k (h.1 110 138)) 110 139 ((k + 1 : Nat) : Int), am_up h.2.1 208 k (h.2.1 110 136), h.2.2) : ak_S).1 117 y = x := (ak_up_out1 (by omega)).trans ((ak_up_out (by omega)).trans ((ak_up_out (by omega)).trans ((ak_up_out (by omega)).trans ((ak_up_out (by omega)).trans ((ak_up_out (by omega)).trans hx)))))
    rw [e1]
    exact q1 z
end LVD
