/-! load once more: the class's run told beforehand; two tellings of one run -/
section LDT
variable {e : ak_X3} {r d j pc len a b : Nat} {z : Int} {ρ ρ1 : List Nat} {ls : am_L} {st s : List am_V} {h hc : ak_S} {Q : List Nat → ak_R3 → Prop}
set_option maxRecDepth 100000 in
theorem am_t168 {w u r2 : Nat} {OK BAD : ak_S → Prop} (hw : w = 0 ∨ w = 1) (hu : u = 0 ∨ u = 1)
    (g9 : ak_M1 e 0 (d + 1) [ak_T w, ak_T u, r2, ak_T w, ak_T w + 1] 9 [am_r 2] hc (fun ρ' x => ρ' = [ak_T w, ak_T u, ak_T u + 1, ak_T w, ak_T w + 1] ∧ ((∃ h, OK h ∧ x = .inl (some (.inl 1), h)) ∨ (∃ h, BAD h ∧ x = .inl (some (.inl 0), h)))))
    (bad : ∀ h, BAD h → Q [ak_T w, ak_T u, ak_T u + 1, ak_T w, ak_T w + 1] (.inl (some (.inl (am_w32 (-1 - h.1 3 9))), (am_up h.1 3 1 0, h.2))))
    (ok : ∀ h, OK h → ak_MV e 0 d [ak_T u, ak_T w, ak_T u + 1, ak_T u, ak_T u + 1] 148 [am_r 33] (am_up h.1 3 1 0, h.2) (fun h1 => ak_MV e 0 d [ak_T u, ak_T w, ak_T u + 1, ak_T u, ak_T u + 1] 106 [am_r 44] h1 (fun h2 => ak_MV e 0 d [ak_T u, ak_T w, ak_T u + 1, ak_T u, ak_T u + 1] 139 [am_r 49] h2 (fun h3 => ak_MV e 0 d [ak_T u, ak_T w, ak_T u + 1, ak_T u, ak_T u + 1] 59 [am_r 63] h3 (fun h4 => Q [ak_T u, ak_T w, ak_T u + 1, ak_T u, ak_T u + 1] (.inl (some (.inl (am_up h4.1 1 8 1 (ak_T u) 4)), (am_up h4.1 1 8 1, h4.2)))) (fun _ _ => False)) (fun _ _ => False)) (fun _ _ => False)) (fun _ _ => False)) :
    ak_M1 e 0 (d + 2) [ak_T w, ak_T u, r2, ak_T w, ak_T w + 1] 168 [am_r 1] hc Q := by
  have hx : ak_T u < am_SP ∧ ak_T w < am_SP := by rcases hu with rfl | rfl <;> rcases hw with rfl | rfl <;> decide
  refine ak_M1_of (Nat.le_of_ble_eq_true rfl) ?_
  have c1 : ak_W1 e 0 (d + 1) 168 [ak_T w, ak_T u, r2, ak_T w, ak_T w + 1] 4 [some (am_r 1), none, none] [am_r 2] hc Q := by
    refine ak_W1_aft (i := 9) (ar := [am_r 2]) (s := []) rfl (fun g call k hg => rfl) g9 (fun ρ' v h' q => ?_) (fun ρ' x h' q => ?_)
    · obtain ⟨rfl, ⟨h, q, ex⟩ | ⟨h, q, ex⟩⟩ := q
      · cases ex
        have G := ok h' q
        -- the texts change over
        have k62 : ak_W1 e 0 (d + 1) 168 [ak_T u, ak_T w, ak_T u + 1, ak_T w, ak_T w + 1] 62 [some (am_r 1), some (am_i 1), some (am_r (ak_T w))] [am_r (ak_T u), am_r 32] (am_up h'.1 3 1 0, h'.2) Q := by
          refine ak_W1_aft (i := 69) (ar := [am_r 32, am_r (ak_T u)]) (s := []) rfl (fun g call k hg => by rcases hu with rfl | rfl <;> rfl) (am_s69 (r3 := ak_T w) (r4 := ak_T w + 1) hu G) (fun ρ' v h2 q => ?_) (fun ρ' x h2 q => ?_)
          · obtain ⟨rfl, h4, q4, ex⟩ := q
            cases ex
            rcases hu with rfl | rfl
            · exact ak_k1_ok (Q := fun x => Q [ak_T 0, ak_T w, ak_T 0 + 1, ak_T 0, ak_T 0 + 1] x) am_cc168 400 [] (fun x q => q) ⟨Or.inr rfl, q4⟩
            · exact ak_k1_ok (Q := fun x => Q [ak_T 1, ak_T w, ak_T 1 + 1, ak_T 1, ak_T 1 + 1] x) am_cc168 400 [] (fun x q => q) ⟨Or.inr rfl, q4⟩
          · obtain ⟨-, h4, -, ex⟩ := q
            cases ex
        have k54 : ak_W1 e 0 (d + 1) 168 [ak_T u, ak_T w, ak_T u + 1, ak_T w, ak_T w + 1] 54 [some (am_r 1), some (am_i 1), some (am_r (ak_T w))] [] (am_up h'.1 3 1 0, h'.2) Q := by
          rcases hu with rfl | rfl
          · exact ak_k1_ok (Q := fun _ => False) am_cc168 400 [(62, [true, true, true])] (fun _ q => q.elim) k62
          · exact ak_k1_ok (Q := fun _ => False) am_cc168 400 [(62, [true, true, true])] (fun _ q => q.elim) k62
        have k51 : ak_W1 e 0 (d + 1) 168 [ak_T u, ak_T u, ak_T u + 1, ak_T w, ak_T w + 1] 51 [some (am_r 1), some (am_i 1), some (am_r (ak_T w))] [am_r (ak_T w), am_r 2] (am_up h'.1 3 1 0, h'.2) Q :=
          ak_W1_putR (len := 3) (ρ1 := [ak_T u, ak_T w, ak_T u + 1, ak_T w, ak_T w + 1]) (q := 2) (x := ak_T w) (n := 0) rfl rfl rfl (by decide) hx.2 rfl ak_Rf_21 k54
        have k46 : ak_W1 e 0 (d + 1) 168 [ak_T u, ak_T u, ak_T u + 1, ak_T w, ak_T w + 1] 46 [some (am_r 1), some (am_i 1), some (am_r (ak_T w))] [] (am_up h'.1 3 1 0, h'.2) Q := by
          rcases hw with rfl | rfl
          · exact ak_k1_ok (Q := fun _ => False) am_cc168 400 [(51, [true, true, true])] (fun _ q => q.elim) k51
          · exact ak_k1_ok (Q := fun _ => False) am_cc168 400 [(51, [true, true, true])] (fun _ q => q.elim) k51
        have k43 : ak_W1 e 0 (d + 1) 168 [ak_T w, ak_T u, ak_T u + 1, ak_T w, ak_T w + 1] 43 [some (am_r 1), some (am_i 1), some (am_r (ak_T w))] [am_r (ak_T u), am_r 1] (am_up h'.1 3 1 0, h'.2) Q :=
          ak_W1_putR (len := 3) (ρ1 := [ak_T u, ak_T u, ak_T u + 1, ak_T w, ak_T w + 1]) (q := 1) (x := ak_T u) (n := 0) rfl rfl rfl (by decide) hx.1 rfl ak_Rf_17 k46
        rcases hu with rfl | rfl <;> rcases hw with rfl | rfl
        · exact ak_k1_ok (Q := fun x => Q [ak_T 0, ak_T 0, ak_T 0 + 1, ak_T 0, ak_T 0 + 1] x) am_cc168 400 [(43, [true, true, true])] (fun x q => q) ⟨fun _ => k43, fun q => absurd q (by decide)⟩
        · exact ak_k1_ok (Q := fun x => Q [ak_T 1, ak_T 0, ak_T 0 + 1, ak_T 1, ak_T 1 + 1] x) am_cc168 400 [(43, [true, true, true])] (fun x q => q) ⟨fun _ => k43, fun q => absurd q (by decide)⟩
        · exact ak_k1_ok (Q := fun x => Q [ak_T 0, ak_T 1, ak_T 1 + 1, ak_T 0, ak_T 0 + 1] x) am_cc168 400 [(43, [true, true, true])] (fun x q => q) ⟨fun _ => k43, fun q => absurd q (by decide)⟩
        · exact ak_k1_ok (Q := fun x => Q [ak_T 1, ak_T 1, ak_T 1 + 1, ak_T 1, ak_T 1 + 1] x) am_cc168 400 [(43, [true, true, true])] (fun x q => q) ⟨fun _ => k43, fun q => absurd q (by decide)⟩
      · cases ex
        have B := bad h' q
        exact ak_k1_ok (Q := fun x => Q [ak_T w, ak_T u, ak_T u + 1, ak_T w, ak_T w + 1] x) am_cc168 400 [(30, [true, true, true])] (fun x q => q) ⟨fun q => absurd rfl q, fun _ => B⟩
    · obtain ⟨-, ⟨h, q, ex⟩ | ⟨h, q, ex⟩⟩ := q <;> cases ex
  exact ak_k1_ok (Q := fun _ => False) am_cc168 400 [(4, [true, true, true])] (fun _ q => q.elim) c1
/-- of two tellings of one run, each with the end that it says best -/
theorem ak_M1_two {P1 P2 N1 N2 : ak_S → Prop} {ar : List am_V} (A : ak_M1 e 0 d ρ j ar hc (fun ρ' x => ρ' = ρ1 ∧ ((∃ h, P1 h ∧ x = .inl (some (.inl 1), h)) ∨ (∃ h, N1 h ∧ x = .inl (some (.inl 0), h)))))
    (B : ak_M1 e 0 d ρ j ar hc (fun ρ' x => ρ' = ρ1 ∧ ((∃ h, P2 h ∧ x = .inl (some (.inl 1), h)) ∨ (∃ h, N2 h ∧ x = .inl (some (.inl 0), h))))) :
    ak_M1 e 0 d ρ j ar hc (fun ρ' x => ρ' = ρ1 ∧ ((∃ h, P1 h ∧ x = .inl (some (.inl 1), h)) ∨ (∃ h, N2 h ∧ x = .inl (some (.inl 0), h)))) := by
  obtain ⟨ρa, ra, ⟨ea, ha⟩, Ha⟩ := A
  obtain ⟨ρb, rb, ⟨eb, hb⟩, Hb⟩ := B
  rcases ha with ha | ha
  · exact ⟨ρa, ra, ⟨ea, Or.inl ha⟩, Ha⟩
  · rcases hb with hb | hb
    · exfalso
      have g0 : ak_gok e (am_I0 e.2, fun _ _ => 0, 0, 0) := fun _ _ _ => rfl
      obtain ⟨F1, q1⟩ := Ha _ g0
      obtain ⟨F2, q2⟩ := Hb _ g0
      obtain ⟨h1, -, rfl⟩ := ha
      obtain ⟨h2, -, rfl⟩ := hb
      have e1 := am_exec_le (show F1 ≤ F1 + F2 by omega) d d j ar _ _ (Nat.le_refl _) q1
      have e2 := am_exec_le (show F2 ≤ F1 + F2 by omega) d d j ar _ _ (Nat.le_refl _) q2
      rw [e1] at e2
      have e3 := Option.some.inj e2
      unfold ak_lf at e3
      have e4 := congrArg Prod.fst (Sum.inl.inj e3)
      have e5 := Sum.inl.inj (Option.some.inj e4)
      exact absurd e5 (by decide)
    · exact ⟨ρb, rb, ⟨eb, Or.inr hb⟩, Hb⟩
end LDT
