/-! the methods that put references: translate, clear, load -/
section LDR
variable {e : ak_X3} {r d j pc len a b : Nat} {ins : Instr} {z : Int} {ρ ρ1 : List Nat} {ls : am_L} {st s : List am_V} {h hc : ak_S} {Q : List Nat → ak_R3 → Prop}
theorem ak_W1_putR {i q x n : Nat} (hC : am_co am_P j pc = some (len, .putfield i, a, b, z)) (hst : st = .inr (.inr x) :: .inr (.inr q) :: s) (hk : am3_kd e r q = some (a, n)) (hq : q < am_SP) (hx : x < am_SP) (hf : am_fty a b = 2)
    (hR : am_up (ak_Rf ρ) q b x = ak_Rf ρ1) (w : ak_W1 e r d j ρ1 (pc + len) ls s h Q) : ak_W1 e r d j ρ pc ls st h Q := by
  obtain ⟨ρ', res, h1, h2⟩ := w
  refine ⟨ρ', res, h1, fun g hg => ?_⟩
  obtain ⟨F, n', h3⟩ := h2 g hg
  refine ⟨F, n' + 1, ?_⟩
  subst hst
  have e1 : am_loc (.putfield i) ls (.inr (.inr x) :: .inr (.inr q) :: s) = none := rfl
  have e2 : am_alu (.putfield i) (.inr (.inr x) :: .inr (.inr q) :: s) = none := rfl
  have e3 : am_hp (am_ro e.1) am_fty am_nf (.putfield i) a b z (.inr (.inr x) :: .inr (.inr q) :: s) (ak_ov r g ρ h) = some (s, ak_ov r g ρ1 h) := by
    unfold am_hp
    dsimp only
    rw [am3_kd_ok hk]
    dsimp only
    rw [if_pos ⟨rfl, hq⟩, if_pos ⟨hf, hx⟩]
    show some (s, ((ak_ov r g ρ h).1, (ak_ov r g ρ h).2.1, (ak_ov r g ρ h).2.2.1, am_up (ak_Rf ρ) q b x, (ak_ov r g ρ h).2.2.2.2)) = _
    rw [hR]
    rfl
  have e0 : am_norm (am_ro e.1) am_fty am_nf (.putfield i) a b z ls (.inr (.inr x) :: .inr (.inr q) :: s) (ak_ov r g ρ h) = some (ls, s, ak_ov r g ρ1 h) := by
    unfold am_norm
    rw [e1]
    dsimp only
    rw [e2]
    dsimp only
    rw [e3]
  rw [am_run, hC]
  refine Eq.trans ((am_one_nrm (ins := .putfield i) rfl).trans ?_) h3
  rw [e0]
  rfl
theorem ak_Rf_17 {r0 r1 r2 r3 r4 x : Nat} : am_up (ak_Rf [r0, r1, r2, r3, r4]) 1 7 x = ak_Rf [x, r1, r2, r3, r4] := by
  funext p k
  unfold am_up ak_Rf
  by_cases h1 : p = 1 <;> by_cases h2 : k = 7 <;> simp [h1, h2]
theorem ak_Rf_21 {r0 r1 r2 r3 r4 x : Nat} : am_up (ak_Rf [r0, r1, r2, r3, r4]) 2 1 x = ak_Rf [r0, x, r2, r3, r4] := by
  funext p k
  unfold am_up ak_Rf
  by_cases h1 : p = 2 <;> by_cases h2 : k = 1 <;> simp [h1, h2]
theorem ak_Rf_22 {r0 r1 r2 r3 r4 x : Nat} : am_up (ak_Rf [r0, r1, r2, r3, r4]) 2 2 x = ak_Rf [r0, r1, x, r3, r4] := by
  funext p k
  unfold am_up ak_Rf
  by_cases h1 : p = 2 <;> by_cases h2 : k = 2 <;> simp [h1, h2]
theorem ak_Rf_326 {r0 r1 r2 r3 r4 x : Nat} : am_up (ak_Rf [r0, r1, r2, r3, r4]) 32 6 x = ak_Rf [r0, r1, r2, x, r4] := by
  funext p k
  unfold am_up ak_Rf
  by_cases h1 : p = 32 <;> by_cases h2 : k = 6 <;> simp [h1, h2]
theorem ak_Rf_327 {r0 r1 r2 r3 r4 x : Nat} : am_up (ak_Rf [r0, r1, r2, r3, r4]) 32 7 x = ak_Rf [r0, r1, r2, r3, x] := by
  funext p k
  unfold am_up ak_Rf
  by_cases h1 : p = 32 <;> by_cases h2 : k = 7 <;> simp [h1, h2]
theorem am_cc9 : am_co am_P 9 = am_lk am_rw9 ∧ am_hl am_P 9 = [(25, 29, 32, 47, 0, 33, 1)] ∧ am_rtag (am_re am_P 9) = 2 := ⟨rfl, rfl, rfl⟩
theorem am_cc69 : am_co am_P 69 = am_lk am_rw69 ∧ am_hl am_P 69 = [] ∧ am_rtag (am_re am_P 69) = 0 := ⟨rfl, rfl, rfl⟩
theorem am_cc168 : am_co am_P 168 = am_lk am_rw168 ∧ am_hl am_P 168 = [] ∧ am_rtag (am_re am_P 168) = 1 := ⟨rfl, rfl, rfl⟩
set_option maxRecDepth 100000 in
theorem am_s9 {u r0 r2 r3 r4 : Nat} {OK BAD : ak_S → Prop} (hu : u = 0 ∨ u = 1)
    (g : ak_MV e 0 d [r0, ak_T u, ak_T u + 1, r3, r4] 134 [am_r (ak_T u)] hc (fun h1 => ak_MV e 0 d [r0, ak_T u, ak_T u + 1, r3, r4] 122 [am_r 3] h1 (fun h2 => ak_MV e 0 d [r0, ak_T u, ak_T u + 1, r3, r4] 13 [am_r 2] h2 OK (fun ex h => ex = 0 ∧ BAD h)) (fun _ _ => False)) (fun _ _ => False)) :
    ak_M1 e 0 (d + 1) [r0, ak_T u, r2, r3, r4] 9 [am_r 2] hc (fun ρ' x => ρ' = [r0, ak_T u, ak_T u + 1, r3, r4] ∧ ((∃ h, OK h ∧ x = .inl (some (.inl 1), h)) ∨ (∃ h, BAD h ∧ x = .inl (some (.inl 0), h)))) := by
  refine ak_M1_of (Nat.le_of_ble_eq_true rfl) ?_
  have g2 : ak_W1 e 0 d 9 [r0, ak_T u, ak_T u + 1, r3, r4] 11 [some (am_r 2), none] [] hc (fun ρ' x => ρ' = [r0, ak_T u, ak_T u + 1, r3, r4] ∧ ((∃ h, OK h ∧ x = .inl (some (.inl 1), h)) ∨ (∃ h, BAD h ∧ x = .inl (some (.inl 0), h)))) := by
    have g3 : ak_MV e 0 d [r0, ak_T u, ak_T u + 1, r3, r4] 134 [am_r (ak_T u)] hc (fun h1 => ak_MV e 0 d [r0, ak_T u, ak_T u + 1, r3, r4] 122 [am_r 3] h1 (fun h2 => ak_MV e 0 d [r0, ak_T u, ak_T u + 1, r3, r4] 13 [am_r 2] h2
        (fun h => ((1 : Int) = 0 ∨ (1 : Int) = 1) ∧ (fun x : ak_R3 => (∃ h, OK h ∧ x = .inl (some (.inl 1), h)) ∨ (∃ h, BAD h ∧ x = .inl (some (.inl 0), h))) (.inl (some (.inl 1), h)))
        (fun ex h => (ex = 0 → ((0 : Int) = 0 ∨ (0 : Int) = 1) ∧ (fun x : ak_R3 => (∃ h, OK h ∧ x = .inl (some (.inl 1), h)) ∨ (∃ h, BAD h ∧ x = .inl (some (.inl 0), h))) (.inl (some (.inl 0), h))) ∧ (ex = 1 → (fun x : ak_R3 => (∃ h, OK h ∧ x = .inl (some (.inl 1), h)) ∨ (∃ h, BAD h ∧ x = .inl (some (.inl 0), h))) (.inr (1, h))) ∧ (ex = 2 → (fun x : ak_R3 => (∃ h, OK h ∧ x = .inl (some (.inl 1), h)) ∨ (∃ h, BAD h ∧ x = .inl (some (.inl 0), h))) (.inr (2, h))) ∧ (ex = 3 → (fun x : ak_R3 => (∃ h, OK h ∧ x = .inl (some (.inl 1), h)) ∨ (∃ h, BAD h ∧ x = .inl (some (.inl 0), h))) (.inr (3, h))) ∧ ex < 4)) (fun _ _ => False)) (fun _ _ => False) := by
      refine ak_MV_imp g (fun h1 g1 => ak_MV_imp g1 (fun h2 g2 => ak_MV_imp g2 (fun h q => ⟨Or.inr rfl, Or.inl ⟨h, q, rfl⟩⟩) (fun ex h q => ?_)) (fun _ _ q => q)) (fun _ _ q => q)
      obtain ⟨rfl, q⟩ := q
      exact ⟨fun _ => ⟨Or.inl rfl, Or.inr ⟨h, q, rfl⟩⟩, fun q => absurd q (by decide), fun q => absurd q (by decide), fun q => absurd q (by decide), by decide⟩
    rcases hu with rfl | rfl
    · exact ak_k1_ok (Q := fun x : ak_R3 => (∃ h, OK h ∧ x = .inl (some (.inl 1), h)) ∨ (∃ h, BAD h ∧ x = .inl (some (.inl 0), h))) am_cc9 400 [] (fun x q => ⟨rfl, q⟩) g3
    · exact ak_k1_ok (Q := fun x : ak_R3 => (∃ h, OK h ∧ x = .inl (some (.inl 1), h)) ∨ (∃ h, BAD h ∧ x = .inl (some (.inl 0), h))) am_cc9 400 [] (fun x q => ⟨rfl, q⟩) g3
  have g4 : ak_W1 e 0 d 9 [r0, ak_T u, r2, r3, r4] 8 [some (am_r 2), none] [am_r (ak_T u + 1), am_r 2] hc (fun ρ' x => ρ' = [r0, ak_T u, ak_T u + 1, r3, r4] ∧ ((∃ h, OK h ∧ x = .inl (some (.inl 1), h)) ∨ (∃ h, BAD h ∧ x = .inl (some (.inl 0), h)))) :=
    ak_W1_putR (len := 3) (ρ1 := [r0, ak_T u, ak_T u + 1, r3, r4]) (q := 2) (x := ak_T u + 1) (n := 0) rfl rfl rfl (by decide) (by rcases hu with rfl | rfl <;> decide) rfl ak_Rf_22 g2
  rcases hu with rfl | rfl
  · exact ak_k1_ok (Q := fun _ => False) am_cc9 400 [(8, [true, true])] (fun _ q => q.elim) g4
  · exact ak_k1_ok (Q := fun _ => False) am_cc9 400 [(8, [true, true])] (fun _ q => q.elim) g4
set_option maxRecDepth 100000 in
theorem am_s69 {u r0 r1 r2 r3 r4 : Nat} {OK : ak_S → Prop} (hu : u = 0 ∨ u = 1)
    (g : ak_MV e 0 d [r0, r1, r2, ak_T u, ak_T u + 1] 148 [am_r 33] hc (fun h1 => ak_MV e 0 d [r0, r1, r2, ak_T u, ak_T u + 1] 106 [am_r 44] h1 (fun h2 => ak_MV e 0 d [r0, r1, r2, ak_T u, ak_T u + 1] 139 [am_r 49] h2 (fun h3 => ak_MV e 0 d [r0, r1, r2, ak_T u, ak_T u + 1] 59 [am_r 63] h3 OK (fun _ _ => False)) (fun _ _ => False)) (fun _ _ => False)) (fun _ _ => False)) :
    ak_M1 e 0 (d + 1) [r0, r1, r2, r3, r4] 69 [am_r 32, am_r (ak_T u)] hc (fun ρ' x => ρ' = [r0, r1, r2, ak_T u, ak_T u + 1] ∧ ∃ h, OK h ∧ x = .inl (none, h)) := by
  refine ak_M1_of (by rcases hu with rfl | rfl <;> exact Nat.le_of_ble_eq_true rfl) ?_
  have g2 : ak_W1 e 0 d 69 [r0, r1, r2, ak_T u, ak_T u + 1] 13 [some (am_r 32), some (am_r (ak_T u))] [] hc (fun ρ' x => ρ' = [r0, r1, r2, ak_T u, ak_T u + 1] ∧ ∃ h, OK h ∧ x = .inl (none, h)) := by
    have g3 : ak_MV e 0 d [r0, r1, r2, ak_T u, ak_T u + 1] 148 [am_r 33] hc (fun h1 => ak_MV e 0 d [r0, r1, r2, ak_T u, ak_T u + 1] 106 [am_r 44] h1 (fun h2 => ak_MV e 0 d [r0, r1, r2, ak_T u, ak_T u + 1] 139 [am_r 49] h2 (fun h3 => ak_MV e 0 d [r0, r1, r2, ak_T u, ak_T u + 1] 59 [am_r 63] h3 (fun h4 => (fun x : ak_R3 => ∃ h, OK h ∧ x = .inl (none, h)) (.inl (none, h4))) (fun _ _ => False)) (fun _ _ => False)) (fun _ _ => False)) (fun _ _ => False) :=
      ak_MV_imp g (fun h1 g1 => ak_MV_imp g1 (fun h2 g2 => ak_MV_imp g2 (fun h3 g3 => ak_MV_imp g3 (fun h4 q => ⟨h4, q, rfl⟩) (fun _ _ q => q)) (fun _ _ q => q)) (fun _ _ q => q)) (fun _ _ q => q)
    rcases hu with rfl | rfl
    · exact ak_k1_ok (Q := fun x : ak_R3 => ∃ h, OK h ∧ x = .inl (none, h)) am_cc69 400 [] (fun x q => ⟨rfl, q⟩) g3
    · exact ak_k1_ok (Q := fun x : ak_R3 => ∃ h, OK h ∧ x = .inl (none, h)) am_cc69 400 [] (fun x q => ⟨rfl, q⟩) g3
  have hx : ak_T u < am_SP ∧ ak_T u + 1 < am_SP := by rcases hu with rfl | rfl <;> decide
  have g4 : ak_W1 e 0 d 69 [r0, r1, r2, ak_T u, r4] 10 [some (am_r 32), some (am_r (ak_T u))] [am_r (ak_T u + 1), am_r 32] hc (fun ρ' x => ρ' = [r0, r1, r2, ak_T u, ak_T u + 1] ∧ ∃ h, OK h ∧ x = .inl (none, h)) :=
    ak_W1_putR (len := 3) (ρ1 := [r0, r1, r2, ak_T u, ak_T u + 1]) (q := 32) (x := ak_T u + 1) (n := 0) rfl rfl rfl (by decide) hx.2 rfl ak_Rf_327 g2
  have g5 : ak_W1 e 0 d 69 [r0, r1, r2, ak_T u, r4] 5 [some (am_r 32), some (am_r (ak_T u))] [] hc (fun ρ' x => ρ' = [r0, r1, r2, ak_T u, ak_T u + 1] ∧ ∃ h, OK h ∧ x = .inl (none, h)) := by
    rcases hu with rfl | rfl
    · exact ak_k1_ok (Q := fun _ => False) am_cc69 400 [(10, [true, true])] (fun _ q => q.elim) g4
    · exact ak_k1_ok (Q := fun _ => False) am_cc69 400 [(10, [true, true])] (fun _ q => q.elim) g4
  have g6 : ak_W1 e 0 d 69 [r0, r1, r2, r3, r4] 2 [some (am_r 32), some (am_r (ak_T u))] [am_r (ak_T u), am_r 32] hc (fun ρ' x => ρ' = [r0, r1, r2, ak_T u, ak_T u + 1] ∧ ∃ h, OK h ∧ x = .inl (none, h)) :=
    ak_W1_putR (len := 3) (ρ1 := [r0, r1, r2, ak_T u, r4]) (q := 32) (x := ak_T u) (n := 0) rfl rfl rfl (by decide) hx.1 rfl ak_Rf_326 g5
  rcases hu with rfl | rfl
  · exact ak_k1_ok (Q := fun _ => False) am_cc69 400 [(2, [true, true])] (fun _ q => q.elim) g6
  · exact ak_k1_ok (Q := fun _ => False) am_cc69 400 [(2, [true, true])] (fun _ q => q.elim) g6
set_option maxRecDepth 100000 in
theorem am_s168 {w u r2 : Nat} {OK BAD : ak_S → Prop} (hw : w = 0 ∨ w = 1) (hu : u = 0 ∨ u = 1)
    (g : ak_MV e 0 d [ak_T w, ak_T u, ak_T u + 1, ak_T w, ak_T w + 1] 134 [am_r (ak_T u)] hc (fun h1 => ak_MV e 0 d [ak_T w, ak_T u, ak_T u + 1, ak_T w, ak_T w + 1] 122 [am_r 3] h1 (fun h2 => ak_MV e 0 d [ak_T w, ak_T u, ak_T u + 1, ak_T w, ak_T w + 1] 13 [am_r 2] h2 OK (fun ex h => ex = 0 ∧ BAD h)) (fun _ _ => False)) (fun _ _ => False))
    (bad : ∀ h, BAD h → Q [ak_T w, ak_T u, ak_T u + 1, ak_T w, ak_T w + 1] (.inl (some (.inl (am_w32 (-1 - h.1 3 9))), (am_up h.1 3 1 0, h.2))))
    (ok : ∀ h, OK h → ak_MV e 0 d [ak_T u, ak_T w, ak_T u + 1, ak_T u, ak_T u + 1] 148 [am_r 33] (am_up h.1 3 1 0, h.2) (fun h1 => ak_MV e 0 d [ak_T u, ak_T w, ak_T u + 1, ak_T u, ak_T u + 1] 106 [am_r 44] h1 (fun h2 => ak_MV e 0 d [ak_T u, ak_T w, ak_T u + 1, ak_T u, ak_T u + 1] 139 [am_r 49] h2 (fun h3 => ak_MV e 0 d [ak_T u, ak_T w, ak_T u + 1, ak_T u, ak_T u + 1] 59 [am_r 63] h3 (fun h4 => Q [ak_T u, ak_T w, ak_T u + 1, ak_T u, ak_T u + 1] (.inl (some (.inl (am_up h4.1 1 8 1 (ak_T u) 4)), (am_up h4.1 1 8 1, h4.2)))) (fun _ _ => False)) (fun _ _ => False)) (fun _ _ => False)) (fun _ _ => False)) :
    ak_M1 e 0 (d + 2) [ak_T w, ak_T u, r2, ak_T w, ak_T w + 1] 168 [am_r 1] hc Q := by
  have hx : ak_T u < am_SP ∧ ak_T w < am_SP := by rcases hu with rfl | rfl <;> rcases hw with rfl | rfl <;> decide
  refine ak_M1_of (Nat.le_of_ble_eq_true rfl) ?_
  have c1 : ak_W1 e 0 (d + 1) 168 [ak_T w, ak_T u, r2, ak_T w, ak_T w + 1] 4 [some (am_r 1), none, none] [am_r 2] hc Q := by
    refine ak_W1_aft (i := 9) (ar := [am_r 2]) (s := []) rfl (fun g call k hg => rfl) (am_s9 (r2 := r2) hu g) (fun ρ' v h' q => ?_) (fun ρ' x h' q => ?_)
    · obtain ⟨rfl, ⟨h, q, ex⟩ | ⟨h, q, ex⟩⟩ := q
      · cases ex
        have G := ok h' q
        -- the texts change over
        have k62 : ak_W1 e 0 (d + 1) 168 [ak_T u, ak_T w, ak_T u + 1, ak_T w, ak_T w + 1] 62 [some (am_r 1), some (am_i 1), some (am_r (ak_T w))] [am_r (ak_T u), am_r 32] (am_up h'.1 3 1 0, h'.2) Q := by
          refine ak_W1_aft (i := 69) (ar := [am_r 32, am_r (ak_T u)]) (s := []) rfl (fun g call k hg => by rcases hu with rfl | rfl <;> rfl) (am_s69 (r3 := ak_T w) (r4 := ak_T w + 1) hu G) (fun ρ' v h2 q => ?_) (fun ρ' x h2 q => ?_)
          · obtain ⟨rfl, h4, q4, ex⟩ := q
            cases ex
            rcases hu with rfl | rfl
            · exact ak_k1_ok (Q := fun x => Q [ak_T 0, ak_T w, ak_T 0 + 1, ak_T 0, ak_T 0 + 1] x) am_cc168 400 [] (fun x q => q) ⟨Or.inr rfl, q4⟩
            · exact ak_k1_ok (Q := fun x => Q [ak_T 1, ak_T w, ak_T 1 + 1, ak_T 1, ak_T 1 + 1] x) am_cc168 400 [] (fun x q => q) ⟨Or.inr rfl, q4⟩
          · obtain ⟨-, h4, -, ex⟩ := q
            cases ex
        have k54 : ak_W1 e 0 (d + 1) 168 [ak_T u, ak_T w, ak_T u + 1, ak_T w, ak_T w + 1] 54 [some (am_r 1), some (am_i 1), some (am_r (ak_T w))] [] (am_up h'.1 3 1 0, h'.2) Q := by
          rcases hu with rfl | rfl
          · exact ak_k1_ok (Q := fun _ => False) am_cc168 400 [(62, [true, true, true])] (fun _ q => q.elim) k62
          · exact ak_k1_ok (Q := fun _ => False) am_cc168 400 [(62, [true, true, true])] (fun _ q => q.elim) k62
        have k51 : ak_W1 e 0 (d + 1) 168 [ak_T u, ak_T u, ak_T u + 1, ak_T w, ak_T w + 1] 51 [some (am_r 1), some (am_i 1), some (am_r (ak_T w))] [am_r (ak_T w), am_r 2] (am_up h'.1 3 1 0, h'.2) Q :=
          ak_W1_putR (len := 3) (ρ1 := [ak_T u, ak_T w, ak_T u + 1, ak_T w, ak_T w + 1]) (q := 2) (x := ak_T w) (n := 0) rfl rfl rfl (by decide) hx.2 rfl ak_Rf_21 k54
        have k46 : ak_W1 e 0 (d + 1) 168 [ak_T u, ak_T u, ak_T u + 1, ak_T w, ak_T w + 1] 46 [some (am_r 1), some (am_i 1), some (am_r (ak_T w))] [] (am_up h'.1 3 1 0, h'.2) Q := by
          rcases hw with rfl | rfl
          · exact ak_k1_ok (Q := fun _ => False) am_cc168 400 [(51, [true, true, true])] (fun _ q => q.elim) k51
          · exact ak_k1_ok (Q := fun _ => False) am_cc168 400 [(51, [true, true, true])] (fun _ q => q.elim) k51
        have k43 : ak_W1 e 0 (d + 1) 168 [ak_T w, ak_T u, ak_T u + 1, ak_T w, ak_T w + 1] 43 [some (am_r 1), some (am_i 1), some (am_r (ak_T w))] [am_r (ak_T u), am_r 1] (am_up h'.1 3 1 0, h'.2) Q :=
          ak_W1_putR (len := 3) (ρ1 := [ak_T u, ak_T u, ak_T u + 1, ak_T w, ak_T w + 1]) (q := 1) (x := ak_T u) (n := 0) rfl rfl rfl (by decide) hx.1 rfl ak_Rf_17 k46
        rcases hu with rfl | rfl <;> rcases hw with rfl | rfl
        · exact ak_k1_ok (Q := fun x => Q [ak_T 0, ak_T 0, ak_T 0 + 1, ak_T 0, ak_T 0 + 1] x) am_cc168 400 [(43, [true, true, true])] (fun x q => q) ⟨fun _ => k43, fun q => absurd q (by decide)⟩
        · exact ak_k1_ok (Q := fun x => Q [ak_T 1, ak_T 0, ak_T 0 + 1, ak_T 1, ak_T 1 + 1] x) am_cc168 400 [(43, [true, true, true])] (fun x q => q) ⟨fun _ => k43, fun q => absurd q (by decide)⟩
        · exact ak_k1_ok (Q := fun x => Q [ak_T 0, ak_T 1, ak_T 1 + 1, ak_T 0, ak_T 0 + 1] x) am_cc168 400 [(43, [true, true, true])] (fun x q => q) ⟨fun _ => k43, fun q => absurd q (by decide)⟩
        · exact ak_k1_ok (Q := fun x => Q [ak_T 1, ak_T 1, ak_T 1 + 1, ak_T 1, ak_T 1 + 1] x) am_cc168 400 [(43, [true, true, true])] (fun x q => q) ⟨fun _ => k43, fun q => absurd q (by decide)⟩
      · cases ex
        have B := bad h' q
        exact ak_k1_ok (Q := fun x => Q [ak_T w, ak_T u, ak_T u + 1, ak_T w, ak_T w + 1] x) am_cc168 400 [(30, [true, true, true])] (fun x q => q) ⟨fun q => absurd rfl q, fun _ => B⟩
    · obtain ⟨-, ⟨h, q, ex⟩ | ⟨h, q, ex⟩⟩ := q <;> cases ex
  exact ak_k1_ok (Q := fun _ => False) am_cc168 400 [(4, [true, true, true])] (fun _ q => q.elim) c1
end LDR
