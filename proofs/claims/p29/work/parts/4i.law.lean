noncomputable section
/-! THE LAW'S LOOP -/
/-- what stands between two turns, in any manner -/
def sx_J (X : Nat → Int) (i T : Int) (H : am_H) : Prop := ∃ full man, (man = 0 ∨ man = 1 ∨ man = 2) ∧ (full = true → man ≠ 0) ∧ sx_Inv X full man i T H
abbrev sx_ls (T i : Int) (a b : Option am_V) : am_L := [some (am_r (am_SP + 2)), some (am_r 1), some (am_r 110), some (am_l T), none, some (am_i i), a, b]
section SXLAW
variable {L : Nat} {X : Nat → Int} {i T x : Int} {H : am_H} {Q : am_R → Prop} {a b : Option am_V}
theorem sx_J1 (hi : 0 ≤ i ∧ i ≤ 49) (hx : -2147483648 ≤ x ∧ x ≤ 2147483647) (hT : -107374182400 ≤ T ∧ T ≤ 107374182400) (v : sx_J X i T H) :
    am_M (am_ro L) 100 175 [.inr (.inr 1), .inl 1, .inr (.inl x), .inr (.inl i)] H (fun res => ∃ H2, res = .inl (some (.inl 0), H2) ∧ sx_J X i (T + x) H2 ∧ H2.2.2.1 64 0 = 1 ∧ H2.2.2.1 64 1 = T + x) := by
  obtain ⟨full, man, hm, hf, v⟩ := v
  have fin : ∀ {full2 : Bool}, (full2 = true → man ≠ 0) → sx_go (sx_ad1 (sx_T full) man) sx_Bd 175 sx_a1 (sx_k1 man full2) = true → am_M (am_ro L) 100 175 [.inr (.inr 1), .inl 1, .inr (.inl x), .inr (.inl i)] H (fun res => ∃ H2, res = .inl (some (.inl 0), H2) ∧ sx_J X i (T + x) H2 ∧ H2.2.2.1 64 0 = 1 ∧ H2.2.2.1 64 1 = T + x) := fun {full2} h2 hc =>
    am_M_deep (by decide) (am_M_imp (sx_r1 hc hi hx hT v) (fun res q => by
      obtain ⟨H2, q1, q2, q3⟩ := q
      exact ⟨H2, q1, ⟨full2, man, hm, h2, q2⟩, q3⟩))
  rcases hm with rfl | rfl | rfl
  · cases full
    · exact fin (full2 := false) (fun z => by cases z) sx_e10
    · exact absurd rfl (hf rfl)
  · cases full
    · exact fin (full2 := true) (fun _ => by decide) sx_e11
    · exact fin (full2 := true) (fun _ => by decide) sx_e12
  · cases full
    · exact fin (full2 := true) (fun _ => by decide) sx_e13
    · exact fin (full2 := true) (fun _ => by decide) sx_e14
theorem sx_J2 {t : Int} (ht : t = 0 ∨ t = 1 ∨ t = 2 ∨ t = 3) (hi : 0 ≤ i ∧ i ≤ 49) (hx : -2147483648 ≤ x ∧ x ≤ 2147483647) (hT : -107374182400 ≤ T ∧ T ≤ 107374182400) (v : sx_J X i T H) :
    am_M (am_ro L) 100 175 [.inr (.inr 1), .inl 2, .inr (.inl x), .inr (.inl t)] H (fun res => ∃ H2, res = .inl (some (.inl 0), H2) ∧ sx_J X (i + 1) T H2 ∧ H2.2.2.1 64 0 = 1 ∧ H2.2.2.1 64 1 = t * x) := by
  obtain ⟨full, man, hm, hf, v⟩ := v
  have fin : sx_go (sx_adW sx_TW) sx_Bd 175 (sx_a2 t) (sx_k2x t) = true → am_M (am_ro L) 100 175 [.inr (.inr 1), .inl 2, .inr (.inl x), .inr (.inl t)] H (fun res => ∃ H2, res = .inl (some (.inl 0), H2) ∧ sx_J X (i + 1) T H2 ∧ H2.2.2.1 64 0 = 1 ∧ H2.2.2.1 64 1 = t * x) := fun hc =>
    am_M_deep (by decide) (am_M_imp (sx_r2 hc hi hx hT v) (fun res q => by
      obtain ⟨H2, q1, q2, q3⟩ := q
      exact ⟨H2, q1, ⟨full, man, hm, hf, q2⟩, q3⟩))
  rcases ht with rfl | rfl | rfl | rfl
  · exact fin sx_e20
  · exact fin sx_e21
  · exact fin sx_e22
  · exact fin sx_e23
theorem sx_JM {m : Int} (hm : m = 0 ∨ m = 1 ∨ m = 2) (v : sx_J X i T H) : am_M (am_ro L) 100 177 [.inr (.inr 1), .inl m] H (fun res => ∃ H2, res = .inl (some (.inl 0), H2) ∧ sx_J X i T H2) := by
  obtain ⟨full, man, -, -, v⟩ := v
  exact am_M_deep (by decide) (am_M_imp (sx_rM sx_eM (by omega) v) (fun res q => by
    obtain ⟨H2, q1, q2⟩ := q
    exact ⟨H2, q1, false, m, hm, fun z => (by cases z), q2⟩))
theorem sx_JF (v : sx_J X i T H) : am_M (am_ro L) 100 163 [.inr (.inr 1)] H (fun res => ∃ H2, res = .inl (none, H2) ∧ sx_J X i T H2) := by
  obtain ⟨full, man, hm, -, v⟩ := v
  exact am_M_deep (by decide) (am_M_imp (sx_rF sx_eF (by omega) v) (fun res q => by
    obtain ⟨H2, q1, q2⟩ := q
    exact ⟨H2, q1, false, man, hm, fun z => (by cases z), q2⟩))
theorem sx_JL0 {s1 s2 : Int} (h5 : H.2.2.1 64 0 = s1) (h6 : H.2.2.1 64 1 = s2) (b1 : -9223372036854775808 ≤ s1 ∧ s1 ≤ 9223372036854775807) (b2 : -9223372036854775808 ≤ s2 ∧ s2 ≤ 9223372036854775807) (v : sx_J X i T H) :
    am_M (am_ro L) 100 176 [.inr (.inr 1), .inl 0] H (fun res => ∃ H2, res = .inl (some (.inr (.inl s1)), H2) ∧ sx_J X i T H2 ∧ H2.2.2.1 64 0 = s1 ∧ H2.2.2.1 64 1 = s2) := by
  obtain ⟨full, man, hm, hf, v⟩ := v
  exact am_M_deep (by decide) (am_M_imp (sx_rL (w := s1) sx_eL0 h5 h6 b1 b2 (fun z hz => (sx_lN_eq (l := (0, 0, 1, 0)) hz).trans (by unfold sx_ev; dsimp only; omega)) v) (fun res q => by
    obtain ⟨H2, q1, q2, q3⟩ := q
    exact ⟨H2, q1, ⟨full, man, hm, hf, q2⟩, q3⟩))
theorem sx_JL1 {s1 s2 : Int} (h5 : H.2.2.1 64 0 = s1) (h6 : H.2.2.1 64 1 = s2) (b1 : -9223372036854775808 ≤ s1 ∧ s1 ≤ 9223372036854775807) (b2 : -9223372036854775808 ≤ s2 ∧ s2 ≤ 9223372036854775807) (v : sx_J X i T H) :
    am_M (am_ro L) 100 176 [.inr (.inr 1), .inl 1] H (fun res => ∃ H2, res = .inl (some (.inr (.inl s2)), H2) ∧ sx_J X i T H2 ∧ H2.2.2.1 64 0 = s1 ∧ H2.2.2.1 64 1 = s2) := by
  obtain ⟨full, man, hm, hf, v⟩ := v
  exact am_M_deep (by decide) (am_M_imp (sx_rL (w := s2) sx_eL1 h5 h6 b1 b2 (fun z hz => (sx_lN_eq (l := (0, 0, 0, 1)) hz).trans (by unfold sx_ev; dsimp only; omega)) v) (fun res q => by
    obtain ⟨H2, q1, q2, q3⟩ := q
    exact ⟨H2, q1, ⟨full, man, hm, hf, q2⟩, q3⟩))
theorem sx_and255 (x : Int) : 0 ≤ (Int32.ofInt x &&& Int32.ofInt 255).toInt := by
  refine Int.not_lt.mp (fun h => ?_)
  have h1 : (Int32.ofInt x &&& Int32.ofInt 255).toBitVec.msb = true := by
    rw [BitVec.msb_eq_toInt, decide_eq_true_iff]
    exact h
  rw [Int32.toBitVec_and, BitVec.msb_and] at h1
  have h2 : (Int32.ofInt 255).toBitVec.msb = false := by decide
  rw [h2, Bool.and_false] at h1
  cases h1
/-- the block's run and what comes behind it -/
theorem sx_w144 (hi : 0 ≤ i ∧ i ≤ 49) (hx : -2147483648 ≤ x ∧ x ≤ 2147483647) (hT : -107374182400 ≤ T ∧ T ≤ 107374182400) (v : sx_J X i T H) (k : ∀ H2 c, sx_J X (i + 1) T H2 → am_W (am_ro L) 100 0 46 (sx_ls T (i + 1) (some (am_i x)) c) [] H2 Q) : am_W (am_ro L) 100 0 144 (sx_ls T i (some (am_i x)) b) [] H Q := by
  have ht : Int.tmod i 4 = 0 ∨ Int.tmod i 4 = 1 ∨ Int.tmod i 4 = 2 ∨ Int.tmod i 4 = 3 := by
    have h1 := Int.tmod_eq_emod_of_nonneg (b := 4) hi.1
    omega
  refine am_W_nrm (st' := [am_i i]) (ls' := sx_ls T i (some (am_i x)) b) (h' := H) rfl rfl rfl ?_
  refine am_W_nrm (st' := [am_i 4, am_i i]) (ls' := sx_ls T i (some (am_i x)) b) (h' := H) rfl rfl rfl ?_
  refine am_W_nrm (st' := [am_i (Int.tmod i 4)]) (ls' := sx_ls T i (some (am_i x)) b) (h' := H) rfl rfl rfl ?_
  generalize Int.tmod i 4 = t at ht ⊢
  refine am_W_nrm (st' := []) (ls' := sx_ls T i (some (am_i x)) (some (am_i t))) (h' := H) rfl rfl rfl ?_
  refine am_W_nrm (st' := [am_r 1]) (ls' := sx_ls T i (some (am_i x)) (some (am_i t))) (h' := H) rfl rfl rfl ?_
  refine am_W_nrm (st' := [am_i 2, am_r 1]) (ls' := sx_ls T i (some (am_i x)) (some (am_i t))) (h' := H) rfl rfl rfl ?_
  refine am_W_nrm (st' := [am_i x, am_i 2, am_r 1]) (ls' := sx_ls T i (some (am_i x)) (some (am_i t))) (h' := H) rfl rfl rfl ?_
  refine am_W_nrm (st' := [am_l x, am_i 2, am_r 1]) (ls' := sx_ls T i (some (am_i x)) (some (am_i t))) (h' := H) rfl rfl rfl ?_
  refine am_W_nrm (st' := [am_i t, am_l x, am_i 2, am_r 1]) (ls' := sx_ls T i (some (am_i x)) (some (am_i t))) (h' := H) rfl rfl rfl ?_
  refine am_W_nrm (st' := [am_l t, am_l x, am_i 2, am_r 1]) (ls' := sx_ls T i (some (am_i x)) (some (am_i t))) (h' := H) rfl rfl rfl ?_
  refine am_W_stat (a := 175) rfl (by decide) (ar := [.inr (.inr 1), .inl 2, .inr (.inl x), .inr (.inl t)]) (r := []) rfl (by decide) (sx_J2 ht hi hx hT v) (fun w H2 q => ?_) (am_K2_none (fun y h' q => by obtain ⟨H2, q, -⟩ := q; cases q))
  obtain ⟨H3, q, v2, s1, s2⟩ := q
  cases q
  refine am_W_if (c := .ne) (x := 0) (t := 180) rfl rfl (fun q => by cases q) (fun _ => ?_)
  refine am_W_nrm (st' := [am_r 1]) (ls' := sx_ls T i (some (am_i x)) (some (am_i t))) (h' := H2) rfl rfl rfl ?_
  refine am_W_nrm (st' := [am_i 1, am_r 1]) (ls' := sx_ls T i (some (am_i x)) (some (am_i t))) (h' := H2) rfl rfl rfl ?_
  have b3 : -9223372036854775808 ≤ t * x ∧ t * x ≤ 9223372036854775807 := by rcases ht with rfl | rfl | rfl | rfl <;> omega
  refine am_W_stat (a := 176) rfl (by decide) (ar := [.inr (.inr 1), .inl 1]) (r := []) rfl (by decide) (sx_JL1 s1 s2 (by decide) b3 v2) (fun w H4 q => ?_) (am_K2_none (fun y h' q => by obtain ⟨H2, q, -⟩ := q; cases q))
  obtain ⟨H5, q, v3, -, -⟩ := q
  cases q
  refine am_W_nrm (st' := [am_i x, am_l (t * x)]) (ls' := sx_ls T i (some (am_i x)) (some (am_i t))) (h' := H4) rfl rfl rfl ?_
  refine am_W_nrm (st' := [am_l x, am_l (t * x)]) (ls' := sx_ls T i (some (am_i x)) (some (am_i t))) (h' := H4) rfl rfl rfl ?_
  refine am_W_nrm (st' := [am_i t, am_l x, am_l (t * x)]) (ls' := sx_ls T i (some (am_i x)) (some (am_i t))) (h' := H4) rfl rfl rfl ?_
  refine am_W_nrm (st' := [am_l t, am_l x, am_l (t * x)]) (ls' := sx_ls T i (some (am_i x)) (some (am_i t))) (h' := H4) rfl rfl rfl ?_
  refine am_W_nrm (st' := [am_l (am_w64 (x * t)), am_l (t * x)]) (ls' := sx_ls T i (some (am_i x)) (some (am_i t))) (h' := H4) rfl rfl rfl ?_
  have e1 : am_w64 (x * t) = t * x := by
    rw [Int.mul_comm]
    exact am_w64_id (by omega) (by omega)
  rw [e1]
  refine am_W_nrm (st' := [am_i (am_lsign (t * x) (t * x))]) (ls' := sx_ls T i (some (am_i x)) (some (am_i t))) (h' := H4) rfl rfl rfl ?_
  have e2 : am_lsign (t * x) (t * x) = 0 := by
    unfold am_lsign
    rw [if_neg (Int.lt_irrefl _), if_pos rfl]
  rw [e2]
  refine am_W_if (c := .eq) (x := 0) (t := 182) rfl rfl (fun _ => ?_) (fun q => by cases q)
  refine am_W_nrm (st' := []) (ls' := sx_ls T (am_w32 (i + 1)) (some (am_i x)) (some (am_i t))) (h' := H4) rfl rfl rfl ?_
  rw [am_w32_id (by omega) (by omega)]
  refine am_W_goto (t := 46) rfl rfl ?_
  exact k H4 _ v3
/-- a cell's turn behind manner and forgetting -/
theorem sx_w102 (hi : 0 ≤ i ∧ i ≤ 49) (hx : -2147483648 ≤ x ∧ x ≤ 2147483647) (hT : -107374182400 ≤ T ∧ T ≤ 107374182400) (hT2 : -107374182400 ≤ T + x ∧ T + x ≤ 107374182400) (v : sx_J X i T H) (k : ∀ H2 c, sx_J X (i + 1) (T + x) H2 → am_W (am_ro L) 100 0 46 (sx_ls (T + x) (i + 1) (some (am_i x)) c) [] H2 Q) : am_W (am_ro L) 100 0 102 (sx_ls T i (some (am_i x)) b) [] H Q := by
  refine am_W_nrm (st' := [am_l T]) (ls' := sx_ls T i (some (am_i x)) b) (h' := H) rfl rfl rfl ?_
  refine am_W_nrm (st' := [am_i x, am_l T]) (ls' := sx_ls T i (some (am_i x)) b) (h' := H) rfl rfl rfl ?_
  refine am_W_nrm (st' := [am_l x, am_l T]) (ls' := sx_ls T i (some (am_i x)) b) (h' := H) rfl rfl rfl ?_
  refine am_W_nrm (st' := [am_l (am_w64 (T + x))]) (ls' := sx_ls T i (some (am_i x)) b) (h' := H) rfl rfl rfl ?_
  rw [am_w64_id (by omega) (by omega)]
  refine am_W_nrm (st' := []) (ls' := sx_ls (T + x) i (some (am_i x)) b) (h' := H) rfl rfl rfl ?_
  refine am_W_nrm (st' := [am_r 1]) (ls' := sx_ls (T + x) i (some (am_i x)) b) (h' := H) rfl rfl rfl ?_
  refine am_W_nrm (st' := [am_i 1, am_r 1]) (ls' := sx_ls (T + x) i (some (am_i x)) b) (h' := H) rfl rfl rfl ?_
  refine am_W_nrm (st' := [am_i x, am_i 1, am_r 1]) (ls' := sx_ls (T + x) i (some (am_i x)) b) (h' := H) rfl rfl rfl ?_
  refine am_W_nrm (st' := [am_l x, am_i 1, am_r 1]) (ls' := sx_ls (T + x) i (some (am_i x)) b) (h' := H) rfl rfl rfl ?_
  refine am_W_nrm (st' := [am_i i, am_l x, am_i 1, am_r 1]) (ls' := sx_ls (T + x) i (some (am_i x)) b) (h' := H) rfl rfl rfl ?_
  refine am_W_nrm (st' := [am_l i, am_l x, am_i 1, am_r 1]) (ls' := sx_ls (T + x) i (some (am_i x)) b) (h' := H) rfl rfl rfl ?_
  refine am_W_stat (a := 175) rfl (by decide) (ar := [.inr (.inr 1), .inl 1, .inr (.inl x), .inr (.inl i)]) (r := []) rfl (by decide) (sx_J1 hi hx hT v) (fun w H2 q => ?_) (am_K2_none (fun y h' q => by obtain ⟨H2, q, -⟩ := q; cases q))
  obtain ⟨H3, q, v2, s1, s2⟩ := q
  cases q
  refine am_W_if (c := .ne) (x := 0) (t := 142) rfl rfl (fun q => by cases q) (fun _ => ?_)
  refine am_W_nrm (st' := [am_r 1]) (ls' := sx_ls (T + x) i (some (am_i x)) b) (h' := H2) rfl rfl rfl ?_
  refine am_W_nrm (st' := [am_i 0, am_r 1]) (ls' := sx_ls (T + x) i (some (am_i x)) b) (h' := H2) rfl rfl rfl ?_
  refine am_W_stat (a := 176) rfl (by decide) (ar := [.inr (.inr 1), .inl 0]) (r := []) rfl (by decide) (sx_JL0 s1 s2 (by decide) (by omega) v2) (fun w H4 q => ?_) (am_K2_none (fun y h' q => by obtain ⟨H2, q, -⟩ := q; cases q))
  obtain ⟨H5, q, v3, s3, s4⟩ := q
  cases q
  refine am_W_nrm (st' := [am_l 1, am_l 1]) (ls' := sx_ls (T + x) i (some (am_i x)) b) (h' := H4) rfl rfl rfl ?_
  refine am_W_nrm (st' := [am_i 0]) (ls' := sx_ls (T + x) i (some (am_i x)) b) (h' := H4) rfl rfl rfl ?_
  refine am_W_if (c := .ne) (x := 0) (t := 142) rfl rfl (fun q => by cases q) (fun _ => ?_)
  refine am_W_nrm (st' := [am_r 1]) (ls' := sx_ls (T + x) i (some (am_i x)) b) (h' := H4) rfl rfl rfl ?_
  refine am_W_nrm (st' := [am_i 1, am_r 1]) (ls' := sx_ls (T + x) i (some (am_i x)) b) (h' := H4) rfl rfl rfl ?_
  refine am_W_stat (a := 176) rfl (by decide) (ar := [.inr (.inr 1), .inl 1]) (r := []) rfl (by decide) (sx_JL1 s3 s4 (by decide) (by omega) v3) (fun w H6 q => ?_) (am_K2_none (fun y h' q => by obtain ⟨H2, q, -⟩ := q; cases q))
  obtain ⟨H7, q, v4, -, -⟩ := q
  cases q
  refine am_W_nrm (st' := [am_l (T + x), am_l (T + x)]) (ls' := sx_ls (T + x) i (some (am_i x)) b) (h' := H6) rfl rfl rfl ?_
  refine am_W_nrm (st' := [am_i (am_lsign (T + x) (T + x))]) (ls' := sx_ls (T + x) i (some (am_i x)) b) (h' := H6) rfl rfl rfl ?_
  have e2 : am_lsign (T + x) (T + x) = 0 := by
    unfold am_lsign
    rw [if_neg (Int.lt_irrefl _), if_pos rfl]
  rw [e2]
  refine am_W_if (c := .eq) (x := 0) (t := 144) rfl rfl (fun _ => ?_) (fun q => by cases q)
  exact sx_w144 hi hx hT2 v4 k
theorem sx_w90 (hi : 0 ≤ i ∧ i ≤ 49) (hx : -2147483648 ≤ x ∧ x ≤ 2147483647) (hT : -107374182400 ≤ T ∧ T ≤ 107374182400) (hT2 : -107374182400 ≤ T + x ∧ T + x ≤ 107374182400) (v : sx_J X i T H) (k : ∀ H2 c, sx_J X (i + 1) (T + x) H2 → am_W (am_ro L) 100 0 46 (sx_ls (T + x) (i + 1) (some (am_i x)) c) [] H2 Q) : am_W (am_ro L) 100 0 90 (sx_ls T i (some (am_i x)) b) [] H Q := by
  refine am_W_nrm (st' := [am_i x]) (ls' := sx_ls T i (some (am_i x)) b) (h' := H) rfl rfl rfl ?_
  refine am_W_nrm (st' := [am_i 11, am_i x]) (ls' := sx_ls T i (some (am_i x)) b) (h' := H) rfl rfl rfl ?_
  refine am_W_nrm (st' := [am_i (Int.tmod x 11)]) (ls' := sx_ls T i (some (am_i x)) b) (h' := H) rfl rfl rfl ?_
  refine am_W_if (c := .ne) (x := Int.tmod x 11) (t := 102) rfl rfl (fun _ => sx_w102 hi hx hT hT2 v k) (fun _ => ?_)
  refine am_W_nrm (st' := [am_r 1]) (ls' := sx_ls T i (some (am_i x)) b) (h' := H) rfl rfl rfl ?_
  have hk : am_kind (am_ro L) H 1 = some (am_rc am_P 163, 0) := by
    obtain ⟨full, man, -, -, v⟩ := v
    exact (sx_kdk (p := 1) (x := (11, 0)) v.2.1.1 rfl).1
  refine am_W_virt (a := 163) rfl (ar := []) (p := 1) (r := []) rfl hk (by decide) (sx_JF v) (fun w H2 q => ?_) (am_K2_none (fun y h' q => by obtain ⟨H2, q, -⟩ := q; cases q))
  obtain ⟨H3, q, v2⟩ := q
  cases q
  exact sx_w102 hi hx hT hT2 v2 k
theorem sx_w66 (hi : 0 ≤ i ∧ i ≤ 49) (hx : -2147483648 ≤ x ∧ x ≤ 2147483647) (hT : -107374182400 ≤ T ∧ T ≤ 107374182400) (hT2 : -107374182400 ≤ T + x ∧ T + x ≤ 107374182400) (v : sx_J X i T H) (k : ∀ H2 c, sx_J X (i + 1) (T + x) H2 → am_W (am_ro L) 100 0 46 (sx_ls (T + x) (i + 1) (some (am_i x)) c) [] H2 Q) : am_W (am_ro L) 100 0 66 (sx_ls T i (some (am_i x)) b) [] H Q := by
  refine am_W_nrm (st' := [am_i x]) (ls' := sx_ls T i (some (am_i x)) b) (h' := H) rfl rfl rfl ?_
  refine am_W_nrm (st' := [am_i 5, am_i x]) (ls' := sx_ls T i (some (am_i x)) b) (h' := H) rfl rfl rfl ?_
  refine am_W_nrm (st' := [am_i (Int.tmod x 5)]) (ls' := sx_ls T i (some (am_i x)) b) (h' := H) rfl rfl rfl ?_
  refine am_W_if (c := .ne) (x := Int.tmod x 5) (t := 90) rfl rfl (fun _ => sx_w90 hi hx hT hT2 v k) (fun _ => ?_)
  refine am_W_nrm (st' := [am_r 1]) (ls' := sx_ls T i (some (am_i x)) b) (h' := H) rfl rfl rfl ?_
  refine am_W_nrm (st' := [am_i x, am_r 1]) (ls' := sx_ls T i (some (am_i x)) b) (h' := H) rfl rfl rfl ?_
  refine am_W_nrm (st' := [am_i 255, am_i x, am_r 1]) (ls' := sx_ls T i (some (am_i x)) b) (h' := H) rfl rfl rfl ?_
  refine am_W_nrm (st' := [am_i (Int32.ofInt x &&& Int32.ofInt 255).toInt, am_r 1]) (ls' := sx_ls T i (some (am_i x)) b) (h' := H) rfl rfl rfl ?_
  refine am_W_nrm (st' := [am_i 3, am_i (Int32.ofInt x &&& Int32.ofInt 255).toInt, am_r 1]) (ls' := sx_ls T i (some (am_i x)) b) (h' := H) rfl rfl rfl ?_
  refine am_W_nrm (st' := [am_i (Int.tmod (Int32.ofInt x &&& Int32.ofInt 255).toInt 3), am_r 1]) (ls' := sx_ls T i (some (am_i x)) b) (h' := H) rfl rfl rfl ?_
  have hm : Int.tmod (Int32.ofInt x &&& Int32.ofInt 255).toInt 3 = 0 ∨ Int.tmod (Int32.ofInt x &&& Int32.ofInt 255).toInt 3 = 1 ∨ Int.tmod (Int32.ofInt x &&& Int32.ofInt 255).toInt 3 = 2 := by
    have h0 : 0 ≤ (Int32.ofInt x &&& Int32.ofInt 255).toInt := sx_and255 x
    have h1 := Int.tmod_eq_emod_of_nonneg (b := 3) h0
    omega
  generalize Int.tmod (Int32.ofInt x &&& Int32.ofInt 255).toInt 3 = m at hm ⊢
  refine am_W_stat (a := 177) rfl (by decide) (ar := [.inr (.inr 1), .inl m]) (r := []) rfl (by decide) (sx_JM hm v) (fun w H2 q => ?_) (am_K2_none (fun y h' q => by obtain ⟨H2, q, -⟩ := q; cases q))
  obtain ⟨H3, q, v2⟩ := q
  cases q
  refine am_W_if (c := .eq) (x := 0) (t := 90) rfl rfl (fun _ => ?_) (fun q => by cases q)
  exact sx_w90 hi hx hT hT2 v2 k
end SXLAW
end
