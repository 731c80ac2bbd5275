/-! the run: a call, what it reads; no steps left -/
section CALL
variable {e : ak_X3} {d ρ1 ρ2 P W y n N o : Nat} {ρ : List Nat} {c : ak_Cx} {g : ak_Gh} {fs : List ak_Fr} {f : ak_Fr} {h hc hm hm' : ak_S} {j : ak_Jb} {r : List ak_Jb} {s x : Int}
/-- what a run that ends well ends with -/
theorem ak_MI_ex {r d : Nat} {jj : Nat} {ar : List am_V} {Q : Int → ak_S → Prop} (w : ak_MI e r d ρ jj ar h Q (fun _ _ => False)) : ∃ v h', Q v h' ∧ ∀ (Q' : Int → ak_S → Prop) (X' : Nat → ak_S → Prop), Q' v h' → ak_MI e r d ρ jj ar h Q' X' := by
  obtain ⟨ρ', res, ⟨hρ, q⟩, run⟩ := w
  rcases res with ⟨v, h'⟩ | ⟨m, h'⟩
  · rcases v with _ | v
    · exact q.elim
    · rcases v with v | v
      · exact ⟨v, h', q, fun Q' X' q' => ⟨ρ', .inl (some (.inl v), h'), ⟨hρ, q'⟩, run⟩⟩
      · exact q.elim
  · exact q.elim
theorem ak_MV_ex {r d : Nat} {jj : Nat} {ar : List am_V} {Q : ak_S → Prop} (w : ak_MV e r d ρ jj ar h Q (fun _ _ => False)) : ∃ h', Q h' ∧ ∀ (Q' : ak_S → Prop) (X' : Nat → ak_S → Prop), Q' h' → ak_MV e r d ρ jj ar h Q' X' := by
  obtain ⟨ρ', res, ⟨hρ, q⟩, run⟩ := w
  rcases res with ⟨v, h'⟩ | ⟨m, h'⟩
  · rcases v with _ | v
    · exact ⟨h', q, fun Q' X' q' => ⟨ρ', .inl (none, h'), ⟨hρ, q'⟩, run⟩⟩
    · exact q.elim
  · exact q.elim
theorem ak_tc_app {l : List (Bool × Int × Int)} : ∀ {u : List (Bool × Int × Int)}, (∀ z, z ∈ u → z.1 = true) → ak_tc (u ++ l) = u.length + ak_tc l := by
  intro u
  induction u with
  | nil => intro _; rw [List.nil_append]; exact (Nat.zero_add _).symm
  | cons z u ih =>
    intro h
    have i := ih (fun z hz => h z (List.mem_cons_of_mem _ hz))
    show ak_tc (u ++ l) + (if z.1 = true then 1 else 0) = _
    rw [if_pos (h z List.mem_cons_self), i, List.length_cons]
    omega
/-- the values above some -/
theorem ak_VS_at {O B : Nat} {ss sw : Int} {Vp Tp : Nat} {l : List (Bool × Int × Int)} : ∀ {u : List (Bool × Int × Int)}, ak_VS O B ss sw Vp Tp hc hm (u ++ l) → (∀ z, z ∈ u → z.1 = true) → ∀ k, k < u.length → hc.1 108 (Vp + l.length + k) = hm.1 199 (Tp + ak_tc l + k) ∧ hc.2.1 109 (Vp + l.length + k) = hm.2.1 200 (Tp + ak_tc l + k) ∧ ak_vok O B (hc.1 108 (Vp + l.length + k)) (hc.2.1 109 (Vp + l.length + k)) := by
  intro u
  induction u with
  | nil => intro _ _ k hk; exact absurd hk (Nat.not_lt_zero _)
  | cons z u ih =>
    intro w h k hk
    have hu := fun z hz => h z (List.mem_cons_of_mem _ hz)
    obtain ⟨⟨w1, w2, w3⟩, w4, _, w6⟩ := w
    rw [List.length_cons] at hk
    by_cases hku : k = u.length
    · obtain ⟨w7, w8⟩ := w4 (h z List.mem_cons_self)
      have e1 : Vp + (u ++ l).length = Vp + l.length + k := by rw [List.length_append]; omega
      have e2 : Tp + ak_tc (u ++ l) = Tp + ak_tc l + k := by rw [ak_tc_app hu]; omega
      have w1 : hc.1 108 (Vp + (u ++ l).length) = z.2.1 := w1
      have w2 : hc.2.1 109 (Vp + (u ++ l).length) = z.2.2 := w2
      have w7 : hm.1 199 (Tp + ak_tc (u ++ l)) = z.2.1 := w7
      have w8 : hm.2.1 200 (Tp + ak_tc (u ++ l)) = z.2.2 := w8
      rw [e1] at w1 w2
      rw [e2] at w7 w8
      rw [w1, w2, w7, w8]
      exact ⟨rfl, rfl, w3⟩
    · exact ih w6 hu k (by omega)
/-- no steps left -/
theorem ak_spent (w : ak_RN c g (f :: fs) hc hm) (fj : f.js = j :: r) (hk : j.k = 3) (h2 : ak_mC c.s c.h0 (ak_T c.s + 2) f.pc = (o : Int)) (ho : 16 < o ∧ o ≤ 20) (h104 : hm.1 110 104 = 4000) (gM : ak_goV e (d + 40) ρ 283 [am_r 110, am_i j.n] (ak_poM hm (ak_nJ fs + 1 + r.length)) (am_up (ak_poM hm (ak_nJ fs + 1 + r.length)).1 110 105 2, (ak_poM hm (ak_nJ fs + 1 + r.length)).2)) : ak_OUT e d ρ1 ρ2 ρ c (ak_Phi hm (f :: fs)) W hc hm := by
  obtain ⟨hs, l60, fU, f5, φ5, sp0, F, L, J0, V, K0, ⟨l1, l2, l3⟩, ⟨d2, d3, d4, d5, o1, o2⟩, ⟨e1, e2, e3, e4, e5, o3⟩, ⟨x1, x2, x3, x4⟩, d72, lt1⟩ := ak_tp w
  obtain ⟨t1, t2, t3, t4, t5, t6⟩ := ak_tj w fj
  obtain ⟨b1, b2, b3, b4⟩ := ak_cd sp0 h2 (by omega)
  have j2 := sp0.2.2.2.2.2.1.1.2.2.1
  have AO : ∀ q k, ¬ (q = 32 ∧ k = 12) → ¬ (q = 72 ∧ k = fs.length) → (ak_atC hc fs.length f.pc).1 q k = hc.1 q k := fun q k a b => ak_atC_o a b
  have gC : ak_cgo e (d + 40) c.s ρ1 ρ2 72 [am_r 32] hc (am_up (ak_atC hc fs.length f.pc).1 32 11 2, (ak_atC hc fs.length f.pc).2) := fun Q X q => by
    refine ak_o72 (d := d + 39) (o := o) w h2 (fun z => absurd z (by omega)) (fun _ _ => absurd ho (by omega)) (fun _ _ => ?_) (fun z => absurd z (by omega)) (fun z => absurd z (by omega)) (fun z => absurd z (by omega))
    refine ak_MV_of (Nat.le_of_ble_eq_true rfl) (am_k85_0 hs ?_)
    exact am_s76 (d := d + 37) (n := 4000) hs (j2.trans h104) (Nat.le_refl _) (fun z => absurd z (by omega)) (fun _ => ⟨fun z => absurd rfl z, fun _ => q⟩)
  have EO : ∀ q k, ¬ (q = 32 ∧ (k = 11 ∨ k = 12)) → ¬ (q = 72 ∧ k = fs.length) → ((am_up (ak_atC hc fs.length f.pc).1 32 11 2, (ak_atC hc fs.length f.pc).2) : ak_S).1 q k = hc.1 q k := fun q k a b => (ak_up_out1 (by omega)).trans (AO q k (by omega) b)
  have E11 : ((am_up (ak_atC hc fs.length f.pc).1 32 11 2, (ak_atC hc fs.length f.pc).2) : ak_S).1 32 11 = 2 := ak_up_at1
  have E2 : ((am_up (ak_atC hc fs.length f.pc).1 32 11 2, (ak_atC hc fs.length f.pc).2) : ak_S).2 = hc.2 := rfl
  generalize ((am_up (ak_atC hc fs.length f.pc).1 32 11 2, (ak_atC hc fs.length f.pc).2) : ak_S) = hcE at gC EO E11 E2
  have MO : ∀ q k, ¬ (q = 110 ∧ (k = 105 ∨ k = 132)) → ((am_up (ak_poM hm (ak_nJ fs + 1 + r.length)).1 110 105 2, (ak_poM hm (ak_nJ fs + 1 + r.length)).2) : ak_S).1 q k = hm.1 q k := fun q k a => (ak_up_out1 (by omega)).trans (ak_poM_o (by omega))
  have M105 : ((am_up (ak_poM hm (ak_nJ fs + 1 + r.length)).1 110 105 2, (ak_poM hm (ak_nJ fs + 1 + r.length)).2) : ak_S).1 110 105 = 2 := ak_up_at1
  have M2 : ((am_up (ak_poM hm (ak_nJ fs + 1 + r.length)).1 110 105 2, (ak_poM hm (ak_nJ fs + 1 + r.length)).2) : ak_S).2 = hm.2 := rfl
  generalize ((am_up (ak_poM hm (ak_nJ fs + 1 + r.length)).1 110 105 2, (ak_poM hm (ak_nJ fs + 1 + r.length)).2) : ak_S) = hmE at gM MO M105 M2
  refine Or.inr ⟨1, hcE, hmE, 2, ak_fend_f w (Or.inl rfl) (ak_SP_fr sp0 (fun q k h => ⟨EO q k (by unfold ak_stC at h; omega) (by unfold ak_stC at h; omega), by rw [E2]⟩) (fun q k h => ⟨MO q k (fun z => h.1 ⟨z.1, by omega⟩), by rw [M2]⟩)) (fun q k a b z => EO q k (by omega) (by omega)) E11 M105, ?_, ak_turn1 hs (by omega) gC ((EO _ _ (by omega) (by omega)).trans o2), ak_job t1 (by omega) (by omega) t3 t4 (fun z => absurd z (by omega)) (fun z => absurd z (by omega)) (fun _ => gM) (fun z => absurd z (by omega)) (by omega), by rw [E2]⟩
  unfold ak_Phi
  show 1 ≤ _ + (ak_pcs fs + (9100 - f.pc) + 9101 * ak_gw f.js)
  omega
end CALL
