noncomputable section
/-! the calls of a turn: what is told before and behind -/
def sx_lN (l : sx_L) : sx_N := .inr (0, l, (0, 0, 0, 0))
def sx_v0 : sx_N := sx_lN (0, 1, 0, 0)
def sx_v1 : sx_N := sx_lN (0, 0, 1, 0)
def sx_v2 : sx_N := sx_lN (0, 0, 0, 1)
def sx_Bd : sx_B := ((0, 49), (-2147483648, 2147483647), (-107374182400, 107374182400))
def sx_Bm : sx_B := ((0, 2), (0, 0), (0, 0))
def sx_Bl : sx_B := ((0, 0), (-9223372036854775808, 9223372036854775807), (-9223372036854775808, 9223372036854775807))
def sx_T (full : Bool) : sx_H := bif full then sx_TF else sx_TE
def sx_then (o : Option sx_H) (f : sx_H → Option sx_H) : Option sx_H := match o with
  | some h => f h
  | none => none
def sx_adW (b : sx_H) : Option sx_H := sx_then (sx_wrI sx_Bd b 49 (.inl 14) sx_v0) (fun b => sx_then (sx_wrI sx_Bd b 49 (.inl 11) (sx_lN (560, -1, 0, 0))) (fun b => sx_wrJ sx_Bd b 36 (.inl 0) sx_v2))
def sx_ad1 (b : sx_H) (man : Int) : Option sx_H := sx_then (sx_adW b) (fun b => sx_wrI sx_Bd b 44 (.inl 6) (.inl man))
def sx_adL (b : sx_H) : Option sx_H := sx_then (sx_wrJ sx_Bl b 64 (.inl 0) sx_v1) (fun b => sx_wrJ sx_Bl b 64 (.inl 1) sx_v2)
def sx_adF (b : sx_H) : Option sx_H := sx_wrI sx_Bm b 44 (.inl 6) sx_v0
def sx_go (o : Option sx_H) (B : sx_B) (j : Nat) (ar : List sx_V) (chk : sx_R → Bool) : Bool := match o with
  | some h => sx_ans (sx_exec2 am_P sx_TTs B am2_b (sx_kd sx_KK) 20000 60 j ar h) chk
  | none => false
def sx_k1 (man : Int) (full : Bool) (r : sx_R) : Bool := sx_isA r.1 (.inl 0) && (sx_no r.2.1 (am_SP + 2) && (sx_imp sx_Bd false r.2 (sx_T full) && (sx_isI sx_Bd r.2 49 14 sx_v0 && (sx_isI sx_Bd r.2 49 11 (sx_lN (560, -1, 0, 0)) && (sx_isJ sx_Bd r.2 36 0 (sx_lN (0, 0, 1, 1)) && (sx_isI sx_Bd r.2 44 6 (.inl man) && (sx_isJ sx_Bd r.2 64 0 (.inl 1) && sx_isJ sx_Bd r.2 64 1 (sx_lN (0, 0, 1, 1)))))))))
def sx_a1 : List sx_V := [.inr (.inr 1), .inl (.inl 1), .inr (.inl sx_v1), .inr (.inl sx_v0)]
def sx_k2x (t : Int) (r : sx_R) : Bool := sx_isA r.1 (.inl 0) && (sx_no r.2.1 (am_SP + 2) && (sx_no r.2.1 44 && (sx_imf sx_Bd r.2 sx_TE sx_TE && (sx_imf sx_Bd r.2 sx_TF sx_TF && (sx_isI sx_Bd r.2 49 14 (sx_lN (1, 1, 0, 0)) && (sx_isI sx_Bd r.2 49 11 (sx_lN (559, -1, 0, 0)) && (sx_isJ sx_Bd r.2 36 0 sx_v2 && (sx_isJ sx_Bd r.2 64 0 (.inl 1) && sx_isJ sx_Bd r.2 64 1 (sx_mk (0, 0, t, 0))))))))))
def sx_a2 (t : Int) : List sx_V := [.inr (.inr 1), .inl (.inl 2), .inr (.inl sx_v1), .inr (.inl (.inl t))]
def sx_kM (r : sx_R) : Bool := sx_isA r.1 (.inl 0) && (sx_no r.2.1 (am_SP + 2) && (sx_no r.2.1 49 && (sx_no r.2.2.1 36 && (sx_imf sx_Bm r.2 sx_TE sx_TE && (sx_imf sx_Bm r.2 sx_TF sx_TE && sx_isI sx_Bm r.2 44 6 sx_v0)))))
def sx_aM : List sx_V := [.inr (.inr 1), .inl sx_v0]
def sx_vd (a : Option sx_V) : Bool := match a with
  | none => true
  | some _ => false
def sx_kF (r : sx_R) : Bool := sx_vd r.1 && (sx_no r.2.1 (am_SP + 2) && (sx_no r.2.1 49 && (sx_no r.2.2.1 36 && (sx_imf sx_Bm r.2 sx_TE sx_TE && (sx_imf sx_Bm r.2 sx_TF sx_TE && sx_isI sx_Bm r.2 44 6 sx_v0)))))
def sx_aF : List sx_V := [.inr (.inr 1)]
def sx_kL (v : sx_N) (r : sx_R) : Bool := sx_isL r.1 v && (sx_no r.2.1 (am_SP + 2) && (sx_no r.2.1 49 && (sx_no r.2.1 44 && (sx_no r.2.2.1 36 && (sx_imf sx_Bl r.2 sx_TE sx_TE && (sx_imf sx_Bl r.2 sx_TF sx_TF && (sx_isJ sx_Bl r.2 64 0 sx_v1 && sx_isJ sx_Bl r.2 64 1 sx_v2)))))))
def sx_aL (k : Int) : List sx_V := [.inr (.inr 1), .inl (.inl k)]
/-- what stands between the turns: whether the sites hold their entries, the manner, how many turns, the sum -/
def sx_Inv (X : Nat → Int) (full : Bool) (man i T : Int) (H : am_H) : Prop := H.2.1 (am_SP + 2) = X ∧ sx_ST H ∧ sx_HF sx_e0z (sx_T full) H ∧ H.2.1 44 6 = man ∧ H.2.1 49 14 = i ∧ H.2.1 49 11 = 560 - i ∧ H.2.2.1 36 0 = T
theorem sx_z0 : (0 : Int) ≤ 0 ∧ (0 : Int) ≤ 0 := ⟨Int.le_refl _, Int.le_refl _⟩
theorem sx_kn_TE : sx_kn sx_TE = true := by decide +kernel
theorem sx_kn_TF : sx_kn sx_TF = true := by decide +kernel
theorem sx_kn_T (full : Bool) {e e2 : sx_E} {H : am_H} (h : sx_HF e (sx_T full) H) : sx_HF e2 (sx_T full) H := by
  cases full
  · exact sx_kn_ok sx_kn_TE h
  · exact sx_kn_ok sx_kn_TF h
theorem sx_lN_ok {e : sx_E} {l : sx_L} {v : Int} (h : v = sx_ev e l) : sx_rn e (sx_lN l) v := h
theorem sx_lN_eq {e : sx_E} {l : sx_L} {v : Int} (h : sx_rn e (sx_lN l) v) : v = sx_ev e l := h
theorem sx_then_some {o : Option sx_H} {f : sx_H → Option sx_H} {h : sx_H} (q : sx_then o f = some h) : ∃ h0, o = some h0 ∧ f h0 = some h := by
  cases o with
  | none => cases q
  | some h0 => exact ⟨h0, rfl, q⟩
theorem sx_adW_ok {e : sx_E} (hB : sx_inB sx_Bd e) {b h : sx_H} {H : am_H} (hh : sx_HF e b H) (h1 : H.2.1 49 14 = e.1) (h2 : H.2.1 49 11 = 560 - e.1) (h3 : H.2.2.1 36 0 = e.2.2) (q : sx_adW b = some h) : sx_HF e h H := by
  obtain ⟨b1, q1, q⟩ := sx_then_some q
  obtain ⟨b2, q2, q⟩ := sx_then_some q
  have g1 := sx_addI hB hh (sx_lN_ok (l := (0, 1, 0, 0)) (by unfold sx_ev; dsimp only; omega)) q1
  have g2 := sx_addI hB g1 (sx_lN_ok (l := (560, -1, 0, 0)) (by unfold sx_ev; dsimp only; omega)) q2
  exact sx_addJ hB g2 (sx_lN_ok (l := (0, 0, 0, 1)) (by unfold sx_ev; dsimp only; omega)) q
theorem sx_ad1_ok {e : sx_E} (hB : sx_inB sx_Bd e) {b h : sx_H} {H : am_H} {man : Int} (hh : sx_HF e b H) (h1 : H.2.1 49 14 = e.1) (h2 : H.2.1 49 11 = 560 - e.1) (h3 : H.2.2.1 36 0 = e.2.2) (h4 : H.2.1 44 6 = man) (q : sx_ad1 b man = some h) : sx_HF e h H := by
  obtain ⟨b1, q1, q⟩ := sx_then_some q
  exact sx_addI hB (sx_adW_ok hB hh h1 h2 h3 q1) (show sx_rn e (.inl man) _ from h4) q
theorem sx_rn_fn {e : sx_E} {l : sx_L} {a b : Int} (h1 : sx_rn e (sx_mk l) a) (h2 : sx_rn e (sx_mk l) b) : a = b := by
  unfold sx_mk at h1 h2
  cases q : (sx_eq l.2.1 0 && (sx_eq l.2.2.1 0 && sx_eq l.2.2.2 0)) with
  | true =>
    rw [q] at h1 h2
    have h1 : a = l.1 := h1
    have h2 : b = l.1 := h2
    rw [h1, h2]
  | false =>
    rw [q] at h1 h2
    have h1 : a = sx_ev e l := h1
    have h2 : b = sx_ev e l := h2
    rw [h1, h2]
theorem sx_isA_ok {e : sx_E} {a : Option sx_V} {v : sx_N} {w : Option am_V} (h : sx_isA a v = true) (q : sx_ra e a w) : ∃ z, w = some (.inl z) ∧ sx_rn e v z := by
  unfold sx_isA at h
  split at h
  · cases w with
    | none => exact False.elim q
    | some y =>
      obtain ⟨z, rfl, hz⟩ := sx_rv_i q
      exact ⟨z, rfl, sx_same_rn h hz⟩
  · cases h
theorem sx_isL_ok {e : sx_E} {a : Option sx_V} {v : sx_N} {w : Option am_V} (h : sx_isL a v = true) (q : sx_ra e a w) : ∃ z, w = some (.inr (.inl z)) ∧ sx_rn e v z := by
  unfold sx_isL at h
  split at h
  · cases w with
    | none => exact False.elim q
    | some y =>
      obtain ⟨z, rfl, hz⟩ := sx_rv_l q
      exact ⟨z, rfl, sx_same_rn h hz⟩
  · cases h
theorem sx_noI_ok {e : sx_E} {Z : sx_Z} {h : sx_H} {H : am_H} (r : sx_HRR e Z h H) {p : Nat} (q : sx_no h.1 p = true) : H.2.1 p = Z.1 p := by
  unfold sx_no at q
  split at q
  · rename_i hn
    exact r.2.2.2.2.2.2.2.1 p hn
  · cases q
theorem sx_noJ_ok {e : sx_E} {Z : sx_Z} {h : sx_H} {H : am_H} (r : sx_HRR e Z h H) {p : Nat} (q : sx_no h.2.1 p = true) : H.2.2.1 p = Z.2 p := by
  unfold sx_no at q
  split at q
  · rename_i hn
    exact r.2.2.2.2.2.2.2.2 p hn
  · cases q
theorem sx_vd_ok {e : sx_E} {a : Option sx_V} {w : Option am_V} (h : sx_vd a = true) (q : sx_ra e a w) : w = none := by
  unfold sx_vd at h
  split at h
  · cases w with
    | none => rfl
    | some y => exact False.elim q
  · cases h
section SXO
variable {L : Nat} {X : Nat → Int} {full : Bool} {man i T x : Int} {H : am_H}
theorem sx_goM {e : sx_E} {B : sx_B} (hB : sx_inB B e) {o : Option sx_H} {j : Nat} {ar : List sx_V} {chk : sx_R → Bool} (hc : sx_go o B j ar chk = true) {t : List am_V} (ha : sx_rl e ar t) (st : sx_ST H) (hh : ∀ h, o = some h → sx_HF e h H) : am_M (am_ro L) 60 j t H (fun res => ∃ r h0, o = some h0 ∧ chk r = true ∧ sx_rr e am_hB_k (110, 160427) am2_b (H.2.1, H.2.2.1) r res) := by
  unfold sx_go at hc
  split at hc
  · rename_i h
    exact am_M_imp (sx_callM hB sx_kdk hc ha (sx_HR_of st (hh h rfl))) (fun res q => by
      obtain ⟨r, q1, q2⟩ := q
      exact ⟨r, h, rfl, q1, q2⟩)
  · cases hc
/-- the second method's run: a cell is added -/
theorem sx_r1 {full2 : Bool} (hc : sx_go (sx_ad1 (sx_T full) man) sx_Bd 175 sx_a1 (sx_k1 man full2) = true) (hi : 0 ≤ i ∧ i ≤ 49) (hx : -2147483648 ≤ x ∧ x ≤ 2147483647) (hT : -107374182400 ≤ T ∧ T ≤ 107374182400) (v : sx_Inv X full man i T H) :
    am_M (am_ro L) 60 175 [.inr (.inr 1), .inl 1, .inr (.inl x), .inr (.inl i)] H (fun res => ∃ H2, res = .inl (some (.inl 0), H2) ∧ sx_Inv X full2 man i (T + x) H2 ∧ H2.2.2.1 64 0 = 1 ∧ H2.2.2.1 64 1 = T + x) := by
  obtain ⟨hX, st, hf, h1, h2, h3, h4⟩ := v
  have hB : sx_inB sx_Bd (i, x, T) := ⟨hi, hx, hT⟩
  have e0 : sx_ev (i, x, T) (0, 1, 0, 0) = i := by unfold sx_ev; dsimp only; omega
  have e1 : sx_ev (i, x, T) (0, 0, 1, 0) = x := by unfold sx_ev; dsimp only; omega
  have e2 : sx_ev (i, x, T) (0, 0, 1, 1) = T + x := by unfold sx_ev; dsimp only; omega
  have e3 : sx_ev (i, x, T) (560, -1, 0, 0) = 560 - i := by unfold sx_ev; dsimp only; omega
  refine am_M_imp (sx_goM hB hc (t := [.inr (.inr 1), .inl 1, .inr (.inl x), .inr (.inl i)]) ⟨rfl, rfl, e1.symm, e0.symm, trivial⟩ st (fun h q => sx_ad1_ok hB (sx_kn_T full hf) h2 h3 h4 h1 q)) (fun res q => ?_)
  obtain ⟨r, h0, -, q1, w, H2, rfl, q2, q3⟩ := q
  unfold sx_k1 at q1
  simp only [Bool.and_eq_true] at q1
  obtain ⟨c1, cX, c2, c3, c4, c5, c6, c7, c8⟩ := q1
  have nX := (sx_noI_ok q2 cX).trans hX
  obtain ⟨z, rfl, hz⟩ := sx_isA_ok c1 q3
  have hz : z = 0 := hz
  subst hz
  have d3 := sx_lN_eq (sx_isI_ok hB q2 c3)
  have d4 := sx_lN_eq (sx_isI_ok hB q2 c4)
  have d5 := sx_lN_eq (sx_isJ_ok hB q2 c5)
  have d6 : H2.2.1 44 6 = man := sx_isI_ok hB q2 c6
  have d7 : H2.2.2.1 64 0 = 1 := sx_isJ_ok hB q2 c7
  have d8 := sx_lN_eq (sx_isJ_ok hB q2 c8)
  exact ⟨H2, rfl, ⟨nX, sx_HR_ST q2, sx_kn_T full2 (sx_imp_ok hB (sx_HR_HF q2) c2), d6, d3.trans e0, d4.trans e3, d5.trans e2⟩, d7, d8.trans e2⟩
theorem sx_TW_of (full : Bool) : sx_imp sx_Bd false (sx_T full) sx_TW = true := by
  cases full
  · decide +kernel
  · decide +kernel
/-- the third method's run: a block is called t times and once more -/
theorem sx_r2 {t : Int} (hc : sx_go (sx_adW sx_TW) sx_Bd 175 (sx_a2 t) (sx_k2x t) = true) (hi : 0 ≤ i ∧ i ≤ 49) (hx : -2147483648 ≤ x ∧ x ≤ 2147483647) (hT : -107374182400 ≤ T ∧ T ≤ 107374182400) (v : sx_Inv X full man i T H) :
    am_M (am_ro L) 60 175 [.inr (.inr 1), .inl 2, .inr (.inl x), .inr (.inl t)] H (fun res => ∃ H2, res = .inl (some (.inl 0), H2) ∧ sx_Inv X full man (i + 1) T H2 ∧ H2.2.2.1 64 0 = 1 ∧ H2.2.2.1 64 1 = t * x) := by
  obtain ⟨hX, st, hf, h1, h2, h3, h4⟩ := v
  have hB : sx_inB sx_Bd (i, x, T) := ⟨hi, hx, hT⟩
  have e0 : sx_ev (i, x, T) (1, 1, 0, 0) = i + 1 := by unfold sx_ev; dsimp only; omega
  have e1 : sx_ev (i, x, T) (0, 0, 1, 0) = x := by unfold sx_ev; dsimp only; omega
  have e2 : sx_ev (i, x, T) (0, 0, 0, 1) = T := by unfold sx_ev; dsimp only; omega
  have e3 : sx_ev (i, x, T) (559, -1, 0, 0) = 560 - (i + 1) := by unfold sx_ev; dsimp only; omega
  have e4 : sx_ev (i, x, T) (0, 0, t, 0) = t * x := by unfold sx_ev; dsimp only; omega
  have hf1 := sx_kn_T full (e2 := (i, x, T)) hf
  refine am_M_imp (sx_goM hB hc (t := [.inr (.inr 1), .inl 2, .inr (.inl x), .inr (.inl t)]) ⟨rfl, rfl, e1.symm, rfl, trivial⟩ st (fun h q => sx_adW_ok hB (sx_imp_ok hB hf1 (sx_TW_of full)) h2 h3 h4 q)) (fun res q => ?_)
  obtain ⟨r, h0, -, q1, w, H2, rfl, q2, q3⟩ := q
  unfold sx_k2x at q1
  simp only [Bool.and_eq_true] at q1
  obtain ⟨c1, cX, c0, c2, c2', c3, c4, c5, c7, c8⟩ := q1
  have nX := (sx_noI_ok q2 cX).trans hX
  obtain ⟨z, rfl, hz⟩ := sx_isA_ok c1 q3
  have hz : z = 0 := hz
  subst hz
  have d3 := sx_lN_eq (sx_isI_ok hB q2 c3)
  have d4 := sx_lN_eq (sx_isI_ok hB q2 c4)
  have d5 := sx_lN_eq (sx_isJ_ok hB q2 c5)
  have d7 : H2.2.2.1 64 0 = 1 := sx_isJ_ok hB q2 c7
  have d8 := sx_isJ_ok hB q2 c8
  have hfr : sx_HF (i, x, T) (sx_T full) H2 := by
    cases full
    · exact sx_imf_ok hB q2 ⟨hf1.1, hf1.2.1⟩ c2
    · exact sx_imf_ok hB q2 ⟨hf1.1, hf1.2.1⟩ c2'
  have d0 : H2.2.1 44 6 = man := by rw [sx_noI_ok q2 c0]; exact h1
  have e5 := sx_rn_mk (e := (i, x, T)) (l := (0, 0, t, 0))
  have d9 : H2.2.2.1 64 1 = t * x := by
    rw [← e4]
    exact sx_rn_fn d8 e5
  exact ⟨H2, rfl, ⟨nX, sx_HR_ST q2, sx_kn_T full hfr, d0, d3.trans e0, d4.trans e3, d5.trans e2⟩, d7, d9⟩
theorem sx_TS_of (full : Bool) : sx_imp sx_Bm false (sx_T full) sx_TS = true := by
  cases full
  · decide +kernel
  · decide +kernel
theorem sx_TL_of (full : Bool) : sx_imp sx_Bl false (sx_T full) sx_TL = true := by
  cases full
  · decide +kernel
  · decide +kernel
/-- the manner is set -/
theorem sx_rM {m : Int} (hc : sx_go (some sx_TS) sx_Bm 177 sx_aM sx_kM = true) (hm : 0 ≤ m ∧ m ≤ 2) (v : sx_Inv X full man i T H) :
    am_M (am_ro L) 60 177 [.inr (.inr 1), .inl m] H (fun res => ∃ H2, res = .inl (some (.inl 0), H2) ∧ sx_Inv X false m i T H2) := by
  obtain ⟨hX, st, hf, h1, h2, h3, h4⟩ := v
  have hB : sx_inB sx_Bm (m, 0, 0) := ⟨hm, sx_z0, sx_z0⟩
  have e0 : sx_ev (m, 0, 0) (0, 1, 0, 0) = m := by unfold sx_ev; dsimp only; omega
  have hf1 := sx_kn_T full (e2 := (m, 0, 0)) hf
  refine am_M_imp (sx_goM hB hc (t := [.inr (.inr 1), .inl m]) ⟨rfl, e0.symm, trivial⟩ st (fun h q => by cases q; exact sx_imp_ok hB hf1 (sx_TS_of full))) (fun res q => ?_)
  obtain ⟨r, h0, -, q1, w, H2, rfl, q2, q3⟩ := q
  unfold sx_kM at q1
  simp only [Bool.and_eq_true] at q1
  obtain ⟨c1, cX, c2, c3, c4, c4', c5⟩ := q1
  have nX := (sx_noI_ok q2 cX).trans hX
  obtain ⟨z, rfl, hz⟩ := sx_isA_ok c1 q3
  have hz : z = 0 := hz
  subst hz
  have d5 := sx_lN_eq (sx_isI_ok hB q2 c5)
  have n1 := sx_noI_ok q2 c2
  have n2 := sx_noJ_ok q2 c3
  have hfr : sx_HF (m, 0, 0) sx_TE H2 := by
    cases full
    · exact sx_imf_ok hB q2 ⟨hf1.1, hf1.2.1⟩ c4
    · exact sx_imf_ok hB q2 ⟨hf1.1, hf1.2.1⟩ c4'
  refine ⟨H2, rfl, nX, sx_HR_ST q2, sx_kn_T false hfr, d5.trans e0, ?_, ?_, ?_⟩
  · rw [n1]; exact h2
  · rw [n1]; exact h3
  · rw [n2]; exact h4
/-- the sites are forgotten -/
theorem sx_rF (hc : sx_go (sx_adF sx_TS) sx_Bm 163 sx_aF sx_kF = true) (hm : 0 ≤ man ∧ man ≤ 2) (v : sx_Inv X full man i T H) :
    am_M (am_ro L) 60 163 [.inr (.inr 1)] H (fun res => ∃ H2, res = .inl (none, H2) ∧ sx_Inv X false man i T H2) := by
  obtain ⟨hX, st, hf, h1, h2, h3, h4⟩ := v
  have hB : sx_inB sx_Bm (man, 0, 0) := ⟨hm, sx_z0, sx_z0⟩
  have e0 : sx_ev (man, 0, 0) (0, 1, 0, 0) = man := by unfold sx_ev; dsimp only; omega
  have hf1 := sx_kn_T full (e2 := (man, 0, 0)) hf
  refine am_M_imp (sx_goM hB hc (t := [.inr (.inr 1)]) ⟨rfl, trivial⟩ st (fun h q => sx_addI hB (sx_imp_ok hB hf1 (sx_TS_of full)) (sx_lN_ok (l := (0, 1, 0, 0)) (by rw [e0]; exact h1)) q)) (fun res q => ?_)
  obtain ⟨r, h0, -, q1, w, H2, rfl, q2, q3⟩ := q
  unfold sx_kF at q1
  simp only [Bool.and_eq_true] at q1
  obtain ⟨c1, cX, c2, c3, c4, c4', c5⟩ := q1
  have nX := (sx_noI_ok q2 cX).trans hX
  have hw := sx_vd_ok c1 q3
  subst hw
  have d5 := sx_lN_eq (sx_isI_ok hB q2 c5)
  have n1 := sx_noI_ok q2 c2
  have n2 := sx_noJ_ok q2 c3
  have hfr : sx_HF (man, 0, 0) sx_TE H2 := by
    cases full
    · exact sx_imf_ok hB q2 ⟨hf1.1, hf1.2.1⟩ c4
    · exact sx_imf_ok hB q2 ⟨hf1.1, hf1.2.1⟩ c4'
  refine ⟨H2, rfl, nX, sx_HR_ST q2, sx_kn_T false hfr, d5.trans e0, ?_, ?_, ?_⟩
  · rw [n1]; exact h2
  · rw [n1]; exact h3
  · rw [n2]; exact h4
/-- what the latest run told -/
theorem sx_rL {k s1 s2 w : Int} {vv : sx_N} (hc : sx_go (sx_adL sx_TL) sx_Bl 176 (sx_aL k) (sx_kL vv) = true) (h5 : H.2.2.1 64 0 = s1) (h6 : H.2.2.1 64 1 = s2) (b1 : -9223372036854775808 ≤ s1 ∧ s1 ≤ 9223372036854775807) (b2 : -9223372036854775808 ≤ s2 ∧ s2 ≤ 9223372036854775807) (hw : ∀ z, sx_rn (0, s1, s2) vv z → z = w) (v : sx_Inv X full man i T H) :
    am_M (am_ro L) 60 176 [.inr (.inr 1), .inl k] H (fun res => ∃ H2, res = .inl (some (.inr (.inl w)), H2) ∧ sx_Inv X full man i T H2 ∧ H2.2.2.1 64 0 = s1 ∧ H2.2.2.1 64 1 = s2) := by
  obtain ⟨hX, st, hf, h1, h2, h3, h4⟩ := v
  have hB : sx_inB sx_Bl (0, s1, s2) := ⟨sx_z0, b1, b2⟩
  have e1 : sx_ev (0, s1, s2) (0, 0, 1, 0) = s1 := by unfold sx_ev; dsimp only; omega
  have e2 : sx_ev (0, s1, s2) (0, 0, 0, 1) = s2 := by unfold sx_ev; dsimp only; omega
  have hf1 := sx_kn_T full (e2 := (0, s1, s2)) hf
  refine am_M_imp (sx_goM hB hc (t := [.inr (.inr 1), .inl k]) ⟨rfl, rfl, trivial⟩ st (fun h q => ?_)) (fun res q => ?_)
  · obtain ⟨b1, q1, q⟩ := sx_then_some q
    have g1 := sx_addJ hB (sx_imp_ok hB hf1 (sx_TL_of full)) (sx_lN_ok (l := (0, 0, 1, 0)) (by rw [e1]; exact h5)) q1
    exact sx_addJ hB g1 (sx_lN_ok (l := (0, 0, 0, 1)) (by rw [e2]; exact h6)) q
  · obtain ⟨r, h0, -, q1, wv, H2, rfl, q2, q3⟩ := q
    unfold sx_kL at q1
    simp only [Bool.and_eq_true] at q1
    obtain ⟨c1, cX, c2, c3, c4, c5, c5', c6, c7⟩ := q1
    have nX := (sx_noI_ok q2 cX).trans hX
    obtain ⟨z, rfl, hz⟩ := sx_isL_ok c1 q3
    have hz := hw z hz
    subst hz
    have n1 := sx_noI_ok q2 c2
    have n2 := sx_noI_ok q2 c3
    have n3 := sx_noJ_ok q2 c4
    have d6 := sx_lN_eq (sx_isJ_ok hB q2 c6)
    have d7 := sx_lN_eq (sx_isJ_ok hB q2 c7)
    have hfr : sx_HF (0, s1, s2) (sx_T full) H2 := by
      cases full
      · exact sx_imf_ok hB q2 ⟨hf1.1, hf1.2.1⟩ c5
      · exact sx_imf_ok hB q2 ⟨hf1.1, hf1.2.1⟩ c5'
    refine ⟨H2, rfl, ⟨nX, sx_HR_ST q2, sx_kn_T full hfr, ?_, ?_, ?_, ?_⟩, d6.trans e1, d7.trans e2⟩
    · rw [n2]; exact h1
    · rw [n1]; exact h2
    · rw [n1]; exact h3
    · rw [n3]; exact h4
end SXO
end
