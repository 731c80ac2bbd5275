/-! the run: what a guard ensures has been done -/
section ENS
variable {e : ak_X3} {d ρ1 ρ2 W y n N m9 : Nat} {ρ : List Nat} {c : ak_Cx} {g : ak_Gh} {fs : List ak_Fr} {f : ak_Fr} {hc hm hP h : ak_S} {j : ak_Jb} {r : List ak_Jb} {v : Int} {X : Nat → ak_S → Prop} {Q : ak_S → Prop}
theorem ak_eeC_v {t : Nat} : (∀ q k, ¬ (q = 77 ∧ (k = 4 ∨ (10 ≤ k ∧ k ≤ 14))) → (ak_eeC h t).1 q k = h.1 q k) ∧ (∀ q k, q ≠ 77 → (ak_eeC h t).2.1 q k = h.2.1 q k) ∧ (ak_eeC h t).2.2 = h.2.2 ∧ (ak_eeC h t).1 77 4 = (t : Int) ∧ (ak_eeC h t).1 77 10 = h.1 82 t ∧ (ak_eeC h t).1 77 11 = h.1 83 t ∧ (ak_eeC h t).1 77 12 = h.1 84 t ∧ (ak_eeC h t).2.1 77 13 = h.2.1 85 t ∧ (ak_eeC h t).1 77 14 = h.1 86 t := by
  unfold ak_eeC
  refine ⟨fun q k a => (ak_up_out1 (by omega)).trans (ak_goS_o (by omega)), fun q k n => ak_goS_J (a := h.1 82 t) (b := h.1 83 t) (s := h.1 84 t) (w := h.2.1 85 t) (f' := h.1 86 t) n, rfl, ak_up_at1, ?_⟩
  obtain ⟨v1, v2, v3, v4, v5⟩ := ak_goS_v (h := h) (a := h.1 82 t) (b := h.1 83 t) (s := h.1 84 t) (w := h.2.1 85 t) (f' := h.1 86 t)
  exact ⟨(ak_up_out1 (by omega)).trans v1, (ak_up_out1 (by omega)).trans v2, (ak_up_out1 (by omega)).trans v3, v4, (ak_up_out1 (by omega)).trans v5⟩
theorem am_s299 (h139 : hP.1 110 139 = ((m9 + 1 : Nat) : Int)) (hm9 : m9 < 2000) (q0 : hP.1 205 m9 ≤ 0 → Q (am_up (am_up (am_up (am_up (am_up (am_up hP.1 110 139 (m9 : Int)) 110 133 (hP.1 205 m9)) 110 134 (hP.1 206 m9)) 110 135 (hP.1 207 m9)) 110 137 (hP.1 209 m9)) 110 138 (hP.1 210 m9), am_up hP.2.1 110 136 (hP.2.1 208 m9), hP.2.2)) (q1 : 0 < hP.1 205 m9 → ak_MV e 1 d ρ 276 [am_r 110] (am_up (am_up (am_up (am_up (am_up (am_up hP.1 110 139 (m9 : Int)) 110 133 (hP.1 205 m9)) 110 134 (hP.1 206 m9)) 110 135 (hP.1 207 m9)) 110 137 (hP.1 209 m9)) 110 138 (hP.1 210 m9), am_up hP.2.1 110 136 (hP.2.1 208 m9), hP.2.2) Q (fun _ _ => False)) : ak_MV e 1 (d + 1) ρ 299 [am_r 110] hP Q X := by
  refine ak_MV_of (Nat.le_of_ble_eq_true rfl) (am_k299_0 ?_)
  rw [h139, show am_w32 (((m9 + 1 : Nat) : Int) - 1) = (m9 : Int) from by rw [ak_w _ (by omega)]; omega, ak_natn]
  have b : 0 ≤ (m9 : Int) ∧ (m9 : Int) < 2000 := by omega
  exact ⟨b, b, b, b, b, b, q0, q1⟩
theorem ak_299v : (∀ q k, ¬ (q = 110 ∧ 133 ≤ k ∧ k ≤ 139) → ((am_up (am_up (am_up (am_up (am_up (am_up hP.1 110 139 (m9 : Int)) 110 133 (hP.1 205 m9)) 110 134 (hP.1 206 m9)) 110 135 (hP.1 207 m9)) 110 137 (hP.1 209 m9)) 110 138 (hP.1 210 m9), am_up hP.2.1 110 136 (hP.2.1 208 m9), hP.2.2) : ak_S).1 q k = hP.1 q k) ∧ (∀ q k, ¬ (q = 110 ∧ k = 136) → ((am_up (am_up (am_up (am_up (am_up (am_up hP.1 110 139 (m9 : Int)) 110 133 (hP.1 205 m9)) 110 134 (hP.1 206 m9)) 110 135 (hP.1 207 m9)) 110 137 (hP.1 209 m9)) 110 138 (hP.1 210 m9), am_up hP.2.1 110 136 (hP.2.1 208 m9), hP.2.2) : ak_S).2.1 q k = hP.2.1 q k) ∧ ((am_up (am_up (am_up (am_up (am_up (am_up hP.1 110 139 (m9 : Int)) 110 133 (hP.1 205 m9)) 110 134 (hP.1 206 m9)) 110 135 (hP.1 207 m9)) 110 137 (hP.1 209 m9)) 110 138 (hP.1 210 m9), am_up hP.2.1 110 136 (hP.2.1 208 m9), hP.2.2) : ak_S).1 110 139 = (m9 : Int) ∧ ((am_up (am_up (am_up (am_up (am_up (am_up hP.1 110 139 (m9 : Int)) 110 133 (hP.1 205 m9)) 110 134 (hP.1 206 m9)) 110 135 (hP.1 207 m9)) 110 137 (hP.1 209 m9)) 110 138 (hP.1 210 m9), am_up hP.2.1 110 136 (hP.2.1 208 m9), hP.2.2) : ak_S).1 110 133 = hP.1 205 m9 ∧ ((am_up (am_up (am_up (am_up (am_up (am_up hP.1 110 139 (m9 : Int)) 110 133 (hP.1 205 m9)) 110 134 (hP.1 206 m9)) 110 135 (hP.1 207 m9)) 110 137 (hP.1 209 m9)) 110 138 (hP.1 210 m9), am_up hP.2.1 110 136 (hP.2.1 208 m9), hP.2.2) : ak_S).1 110 134 = hP.1 206 m9 ∧ ((am_up (am_up (am_up (am_up (am_up (am_up hP.1 110 139 (m9 : Int)) 110 133 (hP.1 205 m9)) 110 134 (hP.1 206 m9)) 110 135 (hP.1 207 m9)) 110 137 (hP.1 209 m9)) 110 138 (hP.1 210 m9), am_up hP.2.1 110 136 (hP.2.1 208 m9), hP.2.2) : ak_S).1 110 135 = hP.1 207 m9 ∧ ((am_up (am_up (am_up (am_up (am_up (am_up hP.1 110 139 (m9 : Int)) 110 133 (hP.1 205 m9)) 110 134 (hP.1 206 m9)) 110 135 (hP.1 207 m9)) 110 137 (hP.1 209 m9)) 110 138 (hP.1 210 m9), am_up hP.2.1 110 136 (hP.2.1 208 m9), hP.2.2) : ak_S).2.1 110 136 = hP.2.1 208 m9 ∧ ((am_up (am_up (am_up (am_up (am_up (am_up hP.1 110 139 (m9 : Int)) 110 133 (hP.1 205 m9)) 110 134 (hP.1 206 m9)) 110 135 (hP.1 207 m9)) 110 137 (hP.1 209 m9)) 110 138 (hP.1 210 m9), am_up hP.2.1 110 136 (hP.2.1 208 m9), hP.2.2) : ak_S).1 110 137 = hP.1 209 m9 ∧ ((am_up (am_up (am_up (am_up (am_up (am_up hP.1 110 139 (m9 : Int)) 110 133 (hP.1 205 m9)) 110 134 (hP.1 206 m9)) 110 135 (hP.1 207 m9)) 110 137 (hP.1 209 m9)) 110 138 (hP.1 210 m9), am_up hP.2.1 110 136 (hP.2.1 208 m9), hP.2.2) : ak_S).1 110 138 = hP.1 210 m9 := by
  refine ⟨fun q k a => (ak_up_out1 (by omega)).trans ((ak_up_out (by omega)).trans ((ak_up_out (by omega)).trans ((ak_up_out (by omega)).trans ((ak_up_out (by omega)).trans (ak_up_out (by omega)))))), fun q k a => ak_up_out a, ?_⟩
  simp [am_up]
theorem ak_st_ens (w : ak_RN c g (f :: fs) hc hm) (fj : f.js = j :: r) (hk : j.k = 11) (fv : f.vs = []) (h2 : ak_mC c.s c.h0 (ak_T c.s + 2) f.pc = 38) (K : ak_K (ak_mC c.s c.h0) (ak_mM c.us c.m0) (ak_T c.s) c.us (g.mt f.r + 40 * g.lv f.r) r (f.pc + 1) []) : ak_OUT e d ρ1 ρ2 ρ c (ak_Phi hm (f :: fs)) W hc hm := by
  obtain ⟨hs, l60, fU, f5, φ5, sp0, F, L, J0, V, K0, ⟨l1, l2, l3⟩, ⟨d2, d3, d4, d5, o1, o2⟩, ⟨e1, e2, e3, e4, e5, o3⟩, ⟨x1, x2, x3, x4⟩, d72, lt1⟩ := ak_tp w
  obtain ⟨t1, t2, t3, t4, t5, t6⟩ := ak_tj w fj
  obtain ⟨b1, b2, b3, b4⟩ := ak_cd sp0 h2 (by decide)
  have etc : ak_tc f.vs = 0 := by rw [fv]; rfl
  have elen : f.vs.length = 0 := by rw [fv]; rfl
  rw [etc] at e3 x2
  rw [elen] at d5 x1
  rw [fj] at J0 d4 e5 l3
  have gc1 : ak_gc (j :: r) = ak_gc r + 1 := by show ak_gc r + (if 9 ≤ j.k then 1 else 0) = _; rw [if_pos (by omega)]
  have kc1 : ak_kc (j :: r) = ak_kc r + 1 := by show ak_kc r + (if j.k = 11 then 1 else 0) = _; rw [if_pos hk]
  have gw1 : ak_gw (j :: r) = ak_gw r := by
    show ak_gw r + (if j.k = 9 then 2 else if j.k = 10 then 1 else 0) = _
    rw [if_neg (by omega), if_neg (by omega)]; rfl
  rw [gc1] at d4 l3
  rw [kc1] at e5
  have hgx := ak_nG_le L
  have hkx := ak_nK_le (fs := fs)
  have hkc := ak_kc_le (l := r)
  have W0 := J0.2.2.1 hk
  have A : ∀ q k, ¬ (q = 32 ∧ k = 12) → ¬ (q = 72 ∧ k = fs.length) → (ak_atC hc fs.length f.pc).1 q k = hc.1 q k := fun q k a b => ak_atC_o a b
  have A12 := ak_atC_12 (hc := hc) (t := fs.length) (pc := f.pc)
  have A72 := ak_atC_72 (hc := hc) (t := fs.length) (pc := f.pc)
  have A2 : (ak_atC hc fs.length f.pc).2 = hc.2 := rfl
  have gC : ak_cgo e (d + 40) c.s ρ1 ρ2 72 [am_r 32] hc (ak_eeC (ak_atC hc fs.length f.pc) (ak_nG fs + ak_gc r)) := fun Q X q => by
    refine ak_o72 (d := d + 39) (o := 38) w h2 (fun z => absurd z (by decide)) (fun z z2 => absurd z2 (by decide)) (fun z z2 => absurd z2 (by decide)) (fun z z2 => absurd z2 (by decide)) (fun z z2 => absurd z2 (by decide)) (fun _ => ?_)
    exact ak_MV_of (Nat.le_of_ble_eq_true rfl) (am_k97_0 hs ⟨trivial, fun _ => am_s56 (d := d + 36) (n := ak_nG fs + ak_gc r) ((A _ _ (by omega) (by omega)).trans d4) (by omega) q, fun z => absurd z (by decide), fun z => absurd z (by decide), fun z => absurd z (by decide), fun z => absurd z (by decide), fun z => absurd z (by decide), fun z => absurd z (by decide), trivial⟩)
  obtain ⟨EO, EJ, E22, E4, E10, E11, E12, E13, E14⟩ := ak_eeC_v (h := ak_atC hc fs.length f.pc) (t := ak_nG fs + ak_gc r)
  rw [A _ _ (by omega) (by omega)] at E10 E11 E12 E14
  rw [A2] at E13 E22
  generalize ak_eeC (ak_atC hc fs.length f.pc) (ak_nG fs + ak_gc r) = hcX at gC EO EJ E22 E4 E10 E11 E12 E13 E14
  have CO : ∀ q k, ¬ (q = 32 ∧ k = 12) → ¬ (q = 72 ∧ k = fs.length) → ¬ (q = 77 ∧ (k = 4 ∨ (10 ≤ k ∧ k ≤ 14))) → hcX.1 q k = hc.1 q k := fun q k a b c' => (EO q k c').trans (A q k a b)
  have C72 : hcX.1 72 fs.length = ((f.pc + 1 : Nat) : Int) := (EO _ _ (by omega)).trans A72
  have CJ : ∀ q k, q ≠ 77 → hcX.2.1 q k = hc.2.1 q k := fun q k a => (EJ q k a).trans (by rw [A2])
  clear EO EJ A
  -- the other
  have P : ∀ q i, ¬ (q = 110 ∧ i = 132) → (ak_poM hm (ak_nJ fs + 1 + r.length)).1 q i = hm.1 q i := fun q i a => ak_poM_o a
  have P2 : (ak_poM hm (ak_nJ fs + 1 + r.length)).2 = hm.2 := rfl
  have P132 := ak_poM_v (hm := hm) (n := ak_nJ fs + 1 + r.length)
  have gM0 : ∀ (Q : ak_S → Prop) (X : Nat → ak_S → Prop), ak_MV e 1 (d + 40) ρ 299 [am_r 110] (ak_poM hm (ak_nJ fs + 1 + r.length)) (fun h1 => ak_W0 e 1 (d + 40) 298 ρ 0 [some (am_r 110), none, none] [] h1 (ak_qv Q X)) (fun _ _ => False) → ak_W0 e 1 (d + 40) 298 ρ 0 [some (am_r 110), none, none] [] hm (ak_qv Q X) := fun Q X q => by
    refine am_k298_0 ?_
    rw [t1, show am_w32 (((ak_nJ fs + 1 + r.length + 1 : Nat) : Int) - 1) = ((ak_nJ fs + 1 + r.length : Nat) : Int) from by rw [ak_w _ (by omega)]; omega, ak_natn, t3, t4]
    have hb : 0 ≤ ((ak_nJ fs + 1 + r.length : Nat) : Int) ∧ ((ak_nJ fs + 1 + r.length : Nat) : Int) < 370000 := by omega
    exact ⟨fun z => absurd z (by omega), fun _ => ⟨fun z => absurd z (by omega), fun _ => ⟨hb, hb, trivial, fun _ => q, fun z => absurd z (by omega), fun z => absurd z (by omega), fun z => absurd z (by omega), fun z => absurd z (by omega), fun z => absurd z (by omega), fun z => absurd z (by omega), fun z => absurd z (by omega), fun z => absurd z (by omega), fun z => absurd z (by omega), fun z => absurd z (by omega), trivial⟩⟩⟩
  generalize ak_poM hm (ak_nJ fs + 1 + r.length) = hP at P P2 P132 gM0
  have g299 := fun (Q : ak_S → Prop) (X : Nat → ak_S → Prop) q0 q1 => am_s299 (e := e) (ρ := ρ) (X := X) (Q := Q) (d := d + 39) (hP := hP) (m9 := ak_nK fs + ak_kc r) ((P _ _ (by omega)).trans e5) (by omega) q0 q1
  obtain ⟨HO, HJ, H139, H133, H134, H135, H136, H137, H138⟩ := ak_299v (hP := hP) (m9 := ak_nK fs + ak_kc r)
  have H22 : ((am_up (am_up (am_up (am_up (am_up (am_up hP.1 110 139 ((ak_nK fs + ak_kc r : Nat) : Int)) 110 133 (hP.1 205 (ak_nK fs + ak_kc r))) 110 134 (hP.1 206 (ak_nK fs + ak_kc r))) 110 135 (hP.1 207 (ak_nK fs + ak_kc r))) 110 137 (hP.1 209 (ak_nK fs + ak_kc r))) 110 138 (hP.1 210 (ak_nK fs + ak_kc r)), am_up hP.2.1 110 136 (hP.2.1 208 (ak_nK fs + ak_kc r)), hP.2.2) : ak_S).2.2 = hm.2.2 := by show hP.2.2 = _; rw [P2]
  generalize ((am_up (am_up (am_up (am_up (am_up (am_up hP.1 110 139 ((ak_nK fs + ak_kc r : Nat) : Int)) 110 133 (hP.1 205 (ak_nK fs + ak_kc r))) 110 134 (hP.1 206 (ak_nK fs + ak_kc r))) 110 135 (hP.1 207 (ak_nK fs + ak_kc r))) 110 137 (hP.1 209 (ak_nK fs + ak_kc r))) 110 138 (hP.1 210 (ak_nK fs + ak_kc r)), am_up hP.2.1 110 136 (hP.2.1 208 (ak_nK fs + ak_kc r)), hP.2.2) : ak_S) = hmX at g299 HO HJ H139 H133 H134 H135 H136 H137 H138 H22
  rw [P _ _ (by omega)] at H133 H134 H135 H137 H138
  rw [P2] at H136
  have p205 := P 205 (ak_nK fs + ak_kc r) (by omega)
  have MO : ∀ q k, ¬ (q = 110 ∧ 132 ≤ k ∧ k ≤ 139) → hmX.1 q k = hm.1 q k := fun q k a => (HO q k (by omega)).trans (P q k (by omega))
  have MJ : ∀ q k, ¬ (q = 110 ∧ k = 136) → hmX.2.1 q k = hm.2.1 q k := fun q k a => (HJ q k a).trans (by rw [P2])
  have M132 : hmX.1 110 132 = ((ak_nJ fs + 1 + r.length : Nat) : Int) := (HO _ _ (by omega)).trans P132
  clear HO HJ
  have spX : ak_SPP c g (ak_rms (f :: fs)) hcX hmX := ak_SP_fr sp0 (fun q k h => ⟨CO q k (by unfold ak_stC at h; omega) (by unfold ak_stC at h; omega) (by unfold ak_stC at h; omega), CJ q k (by unfold ak_stC at h; omega)⟩) (fun q k h => ⟨MO q k (by unfold ak_stM at h; omega), MJ q k (by unfold ak_stM at h; omega)⟩)
  have JX : ak_JS g.O g.B g.φ (f.r :: ak_rms fs) fs.length (ak_nJ fs + 1) (ak_nG fs) (ak_nK fs) (ak_nT fs) hcX hmX r := ak_JS_fr (Nat.le_refl _) (Nat.le_refl _) (fun _ _ => rfl) t6 (fun q k a b _ => ⟨CO q k (by omega) (by omega) (by omega), CJ q k (by omega)⟩) (fun q k a b _ => MO q k (by omega)) (fun q k a b _ => ⟨MO q k (by omega), MJ q k (by omega)⟩)
  have W1 := W0.1
  by_cases hway : hc.1 82 (ak_nG fs + ak_gc r) = 0
  · have w' := ak_RN_any (vs' := []) (pc' := f.pc + 1) (js' := r) w spX (fun q k h => CO q k (by omega) (by omega) (by omega)) (fun q k h => CJ q k (by omega)) (fun y hy => ⟨CO _ _ (by omega) (by omega) (by omega), CO _ _ (by omega) (by omega) (by omega), CJ _ _ (by omega)⟩)
      (fun q k h => MO q k (by omega)) (fun q k h => MJ q k (by omega)) (by rw [CO 73 _ (by omega) (by omega) (by omega), MO 183 _ (by omega)]; exact F.1.2.2.2.1) C72 E4 ((CO _ _ (by omega) (by omega) (by omega)).trans d5) ((CO _ _ (by omega) (by omega) (by omega)).trans o1) (E10.trans hway) ((MO _ _ (by omega)).trans o3) ((MO _ _ (by omega)).trans e3) M132 H139
      JX trivial K ⟨by omega, by show 0 ≤ 151; decide, by omega⟩
    refine ak_OUT1 w w' (by simp) gC (fun Q X q => gM0 Q X (g299 _ _ (fun _ => q) (fun z => absurd z (by rw [p205, ← W1, hway]; decide)))) ?_ (by rw [MO _ _ (by omega)]; exact Int.le_refl _) E22 (fun q a b => by rw [MO 110 q (by omega)]; omega)
    show ak_pcs fs + (9100 - (f.pc + 1)) + 9101 * ak_gw r + 1 ≤ ak_pcs fs + (9100 - f.pc) + 9101 * ak_gw f.js
    rw [fj, gw1]
    omega
  · have hpos : 0 < hP.1 205 (ak_nK fs + ak_kc r) := by
      rw [p205, ← W1]
      rcases W0.2 with h | h | h
      · exact absurd h hway
      · rw [h.1]; decide
      · rw [h.1]; decide
    obtain ⟨row1, row2, row3, row4⟩ := ak_LO_row L
    have gl := (ak_gle_refl w).2.2
    have hsub : ∀ y, y ∈ ak_rms fs → y ∈ ak_rms (f :: fs) := fun y h => by simp [ak_rms] at h ⊢; exact Or.inr h
    have nHx : ak_nH hcX (f :: fs) = ak_nH hc (f :: fs) := ak_nH_fr (fun k _ => CO 76 k (by omega) (by omega) (by omega))
    have UI : ak_UI c g [] f r fs (ak_pcs (f :: fs)) hmX hcX hmX := by
      refine ⟨⟨spX, ?_, fun p z q h => ?_, (CO _ _ (by omega) (by omega) (by omega)).trans d2, ?_, by rw [List.nil_append, List.length_cons]; exact l60⟩, ⟨E4, (CO _ _ (by omega) (by omega) (by omega)).trans o1, by rw [E10]; exact hway, ?_⟩,
        ⟨(MO _ _ (by omega)).trans e1, M132, H139, (MO _ _ (by omega)).trans o3, (MO _ _ (by omega)).trans e2⟩, ⟨fun _ _ _ _ => rfl, fun _ _ _ => rfl, fun y hy => by cases hy⟩,
        ⟨ak_F0_fr F (fun _ _ => rfl) fU rfl (fun q a b _ _ => CO q _ (by omega) (by omega) (by omega)) (by rw [CO _ _ (by omega) (by omega) (by omega), MO _ _ (by omega)]; exact F.1.2.2.2.1) (CO _ _ (by omega) (by omega) (by omega)) (MO _ _ (by omega)) (fun q a b => MO q _ (by omega)), JX, ⟨_, _, K⟩, by omega, by omega⟩,
        ak_LO_kp ⟨Nat.le_refl _, Nat.le_refl _, fun y hy => gl y (hsub y hy)⟩ L (fun q k h => CO q k (by omega) (by omega) (by omega)) (fun q k h => CJ q k (by omega)) (fun y hy => ⟨CO _ _ (by omega) (by omega) (by omega), CO _ _ (by omega) (by omega) (by omega), CJ _ _ (by omega)⟩) (fun q k h => MO q k (by omega)) (fun q k h => MJ q k (by omega)), ?_⟩
      · refine List.nodup_cons.mpr ⟨fun h => ?_, row4⟩
        have h1 := row3 f.r h
        have h2 := F.1.2.2.2.2.2.2.2.2
        omega
      · rw [CO _ _ (by omega) (by omega) (by omega), CO _ _ (by omega) (by omega) (by omega)]
        cases p with
        | nil =>
          rw [List.nil_append, List.nil_append] at h
          obtain ⟨rfl, rfl⟩ := List.cons.inj h
          exact ⟨F.1.2.1, F.1.2.2.2.2.2.2.2.1, fU⟩
        | cons p0 p =>
          have h2 := (List.cons.inj h).2
          have := row1 p z q h2
          exact ⟨this.1, this.2.1, this.2.2.1⟩
      · rw [CO _ _ (by omega) (by omega) (by omega), d3]
        exact nHx.symm
      · rw [E10, E11, E12, E13, E14, H133, H134, H135, H136, H137, H138]
        exact W0
      · show ak_pcs fs + 9101 * ak_gw r + 1 ≤ ak_pcs fs + (9100 - f.pc) + 9101 * ak_gw f.js
        rw [fj, gw1]
        omega
    obtain ⟨hc', hm', g1, g2, g3, g4⟩ := ak_LV (e := e) (d := d) (ρ1 := ρ1) (ρ2 := ρ2) (ρ := ρ) _ [] f r fs hcX hmX (Nat.le_refl _) UI
    have tC : ak_turns e (d + 40) c.s ρ1 ρ2 1 hc hc' := ak_turnU hs (by omega) gC (by rw [E10]; exact hway) (fun Q X q => ak_MV_of (Nat.le_of_ble_eq_true rfl) (am_k100_0 hs (g1 0 Q X (by rw [E4]; omega) q)))
    have tM : ak_mgo e (d + 40) ρ hm hm' := fun Q X q => gM0 Q X (g299 _ _ (fun z => absurd z (by omega)) (fun _ => ak_MV_deep (show d + 21 ≤ d + 39 by omega) (ak_MV_of (Nat.le_of_ble_eq_true rfl) (am_k276_0 (g2 _ _ q)))))
    have hPs : ak_pcs (f :: fs) ≤ ak_pcs (f :: fs) := Nat.le_refl _
    rcases g4 with ⟨g', fs', h1, h2x, h3, h4⟩ | ⟨o, h⟩
    · refine Or.inl ⟨1, g', fs', hc', hm', h1, h2x, tC, tM, ?_, fun h => absurd h (by decide), g3.trans E22, fun q a b => ?_⟩
      · unfold ak_Phi
        rw [h4 104 (Or.inl rfl), MO _ _ (by omega)]
        omega
      · rw [h4 q (Or.inr ⟨a, b⟩), MO _ _ (by omega)]; omega
    · refine Or.inr ⟨1, hc', hm', o, h, ?_, tC, tM, g3.trans E22⟩
      unfold ak_Phi
      show 1 ≤ _ + (ak_pcs fs + (9100 - f.pc) + 9101 * ak_gw f.js)
      omega
end ENS
