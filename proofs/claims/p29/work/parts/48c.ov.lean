/-! a long run in pieces: a call whose end is known already -/
noncomputable section
def sx_told (m : sx_M) (p : Nat) (_ : sx_Ct) : Bool := match sx_cl m p with
  | some _ => true
  | none => false
def sx_dm (h g : sx_H) : Bool := sx_imM (sx_told g.1) h.1 0 && sx_imM (sx_told g.2.1) h.2.1 0
theorem sx_dm_ok {h g : sx_H} (hd : sx_dm h g = true) : (∀ p, sx_cl g.1 p = none → sx_cl h.1 p = none) ∧ ∀ p, sx_cl g.2.1 p = none → sx_cl h.2.1 p = none := by
  unfold sx_dm at hd
  rw [Bool.and_eq_true] at hd
  refine ⟨fun p hp => ?_, fun p hp => ?_⟩
  · cases hx : sx_cl h.1 p with
    | none => rfl
    | some c =>
      have := sx_imM_ok hd.1 hx
      unfold sx_told at this
      rw [hp] at this
      cases this
  · cases hx : sx_cl h.2.1 p with
    | none => rfl
    | some c =>
      have := sx_imM_ok hd.2 hx
      unfold sx_told at this
      rw [hp] at this
      cases this
theorem sx_HR_imp {B : sx_B} {e : sx_E} (hB : sx_inB B e) {Z : sx_Z} {h g : sx_H} {H : am_H} (r : sx_HRR e Z h H) (h1 : sx_imp B false h g = true) (h2 : sx_dm h g = true) : sx_HRR e Z g H := by
  have f := sx_imp_ok hB (sx_HR_HF r) h1
  have d := sx_dm_ok h2
  obtain ⟨a1, a2, -, -, -, a6, a7, a8, a9⟩ := r
  exact ⟨a1, a2, f.1, f.2.1, f.2.2, a6, a7, fun p hp => a8 p (d.1 p hp), fun p hp => a9 p (d.2 p hp)⟩
abbrev sx_Pc : Type := Nat × List Nat × sx_H × Option Int × sx_H
def sx_ras (ps : List Nat) : List sx_V := ps.map (fun p => .inr (.inr p))
def sx_rat (ps : List Nat) : List am_V := ps.map (fun p => .inr (.inr p))
theorem sx_ras_ok {e : sx_E} : ∀ ps : List Nat, sx_rl e (sx_ras ps) (sx_rat ps)
  | [] => trivial
  | _ :: r => ⟨rfl, sx_ras_ok r⟩
def sx_isr : List sx_V → List Nat → Bool
  | [], [] => true
  | .inr (.inr q) :: r, p :: s => Nat.beq q p && sx_isr r s
  | _, _ => false
theorem sx_isr_ok {e : sx_E} : ∀ {ar : List sx_V} {ps : List Nat} {t : List am_V}, sx_isr ar ps = true → sx_rl e ar t → t = sx_rat ps := by
  intro ar
  induction ar with
  | nil =>
    intro ps t h ha
    cases ps with
    | nil => rw [sx_rl_nil ha]; rfl
    | cons _ _ => cases h
  | cons v r ih =>
    intro ps t h ha
    cases ps with
    | nil => rcases v with v | v | v <;> cases h
    | cons p s =>
      rcases v with v | v | v
      · cases h
      · cases h
      · have h : (Nat.beq v p && sx_isr r s) = true := h
        rw [Bool.and_eq_true] at h
        obtain ⟨t2, rfl, h2⟩ := sx_rl_cr ha
        rw [ih h.2 h2, Nat.eq_of_beq_eq_true h.1]
        rfl
def sx_av (a : Option Int) : Option sx_V := match a with
  | none => none
  | some z => some (.inl (.inl z))
def sx_avq (a : Option Int) (v : Option sx_V) : Bool := match a, v with
  | none, none => true
  | some z, some (.inl w) => sx_same (.inl z) w
  | _, _ => false
theorem sx_avq_ok {e : sx_E} {a : Option Int} {v : Option sx_V} {w : Option am_V} (h : sx_avq a v = true) (q : sx_ra e v w) : sx_ra e (sx_av a) w := by
  unfold sx_avq at h
  split at h
  · exact q
  · cases w with
    | none => exact False.elim q
    | some y =>
      obtain ⟨z, rfl, hz⟩ := sx_rv_i q
      exact sx_same_rn h hz
  · cases h
/-- a piece: the method at a reference, from one heap to another -/
def sx_pcq (c : sx_Pc) (r : sx_R) : Bool := sx_avq c.2.2.2.1 r.1 && (sx_imp sx_Bz false r.2 c.2.2.2.2 && sx_dm r.2 c.2.2.2.2)
def sx_piece (L F d : Nat) (c : sx_Pc) : Prop := ∀ (Z : sx_Z) (H : am_H), sx_HRR sx_e0z Z c.2.2.1 H → ∃ res, am_exec am_P (am_ro L) F d c.1 (sx_rat c.2.1) H = some res ∧ sx_rr sx_e0z am_hB_k (110, 160427) am2_b Z (sx_av c.2.2.2.1, c.2.2.2.2) res
theorem sx_pc_of {L F d : Nat} {c : sx_Pc} {o : Option sx_R} (hc : sx_ans o (sx_pcq c) = true) (ho : ∀ r, o = some r → ∀ (Z : sx_Z) (H : am_H), sx_HRR sx_e0z Z c.2.2.1 H → ∃ res, am_exec am_P (am_ro L) F d c.1 (sx_rat c.2.1) H = some res ∧ sx_rr sx_e0z am_hB_k (110, 160427) am2_b Z r res) : sx_piece L F d c := by
  cases hx : o with
  | none => rw [hx] at hc; cases hc
  | some r =>
    rw [hx] at hc
    have hc : sx_pcq c r = true := hc
    intro Z H hH
    obtain ⟨res, h1, w, H2, rfl, h2, h3⟩ := ho r hx Z H hH
    unfold sx_pcq at hc
    simp only [Bool.and_eq_true] at hc
    exact ⟨_, h1, w, H2, rfl, sx_HR_imp sx_inBz h2 hc.2.1 hc.2.2, sx_avq_ok hc.1 h3⟩
theorem sx_pc1 {L d : Nat} {c : sx_Pc} (hc : sx_ans (sx_exec2 am_P sx_TTs sx_Bz am2_b (sx_kd sx_KK) 20000 d c.1 (sx_ras c.2.1) c.2.2.1) (sx_pcq c) = true) : sx_piece L 20000 d c :=
  sx_pc_of hc (fun r hr Z H hH => sx_exec2_ok (ro := am_ro L) sx_TTs_ok sx_inBz sx_kdk d _ _ _ _ (sx_rat c.2.1) H hr (sx_ras_ok _) hH)
def sx_ovc (cs : List sx_Pc) (dflt : sx_CL) (j : Nat) (ar : List sx_V) (h : sx_H) : Option sx_R := match cs with
  | [] => dflt j ar h
  | c :: r => bif Nat.beq j c.1 && (sx_isr ar c.2.1 && (sx_imp sx_Bz false h c.2.2.1 && sx_dm h c.2.2.1)) then some (sx_av c.2.2.2.1, c.2.2.2.2) else sx_ovc r dflt j ar h
theorem sx_ovc_ok {Z : sx_Z} {call' : Nat → List am_V → am_H → Option am_R} {dflt : sx_CL} (hd : sx_cok sx_e0z am_hB_k (110, 160427) am2_b Z dflt call') : ∀ cs : List sx_Pc, (∀ c ∈ cs, ∀ H, sx_HRR sx_e0z Z c.2.2.1 H → ∃ res, call' c.1 (sx_rat c.2.1) H = some res ∧ sx_rr sx_e0z am_hB_k (110, 160427) am2_b Z (sx_av c.2.2.2.1, c.2.2.2.2) res) → sx_cok sx_e0z am_hB_k (110, 160427) am2_b Z (sx_ovc cs dflt) call'
  | [], _ => hd
  | c :: r, hc => fun j ar h res t H hh ha hH => by
    unfold sx_ovc at hh
    rcases sx_ifb hh with ⟨q, hh⟩ | ⟨q, hh⟩
    · simp only [Bool.and_eq_true, Nat.beq_eq] at q
      obtain ⟨q1, q2, q3, q4⟩ := q
      cases hh
      rw [sx_isr_ok q2 ha, q1]
      exact hc c List.mem_cons_self H (sx_HR_imp sx_inBz hH q3 q4)
    · exact sx_ovc_ok hd r (fun c hc2 => hc c (List.mem_cons_of_mem _ hc2)) j ar h res t H hh ha hH
def sx_execO (cs : List sx_Pc) (d : Nat) (j : Nat) (ar : List sx_V) (h : sx_H) : Option sx_R := bif Nat.ble (sx_cats ar) (am_ml am_P j) then sx_run2 sx_Bz am2_b (sx_kd sx_KK) am_fty (am_na am_P) (am_rc am_P) (sx_T3 sx_TTs j) (am_co am_P j) (am_rtag (am_re am_P j)) (sx_ovc cs (sx_exec2 am_P sx_TTs sx_Bz am2_b (sx_kd sx_KK) 20000 d)) 20000 0 (sx_ent (am_ml am_P j) ar) [] h else none
theorem sx_execO_ok {L d : Nat} {cs : List sx_Pc} (hcs : ∀ c ∈ cs, sx_piece L 20000 d c) {Z : sx_Z} {j : Nat} {ar : List sx_V} {h : sx_H} {r : sx_R} {t : List am_V} {H : am_H} (hh : sx_execO cs d j ar h = some r) (ha : sx_rl sx_e0z ar t) (hH : sx_HRR sx_e0z Z h H) : ∃ res, am_exec am_P (am_ro L) 20000 (d + 1) j t H = some res ∧ sx_rr sx_e0z am_hB_k (110, 160427) am2_b Z r res := by
  unfold sx_execO at hh
  rw [am_exec]
  obtain ⟨h1, hh⟩ := sx_ifs hh
  rw [if_pos (by rw [sx_rl_cats ha]; exact Nat.le_of_ble_eq_true h1)]
  exact sx_run2_ok sx_inBz sx_kdk (sx_T3_ok sx_TTs_ok j) (sx_ovc_ok (sx_exec2_ok sx_TTs_ok sx_inBz sx_kdk d) cs (fun c hc H hH => hcs c hc Z H hH)) 20000 _ _ _ _ _ _ _ _ hh (sx_ent_ok ha) trivial hH
theorem sx_pc2 {L d : Nat} {cs : List sx_Pc} (hcs : ∀ c ∈ cs, sx_piece L 20000 d c) {c : sx_Pc} (hc : sx_ans (sx_execO cs d c.1 (sx_ras c.2.1) c.2.2.1) (sx_pcq c) = true) : sx_piece L 20000 (d + 1) c :=
  sx_pc_of hc (fun _ hr _ _ hH => sx_execO_ok hcs hr (sx_ras_ok _) hH)
end
