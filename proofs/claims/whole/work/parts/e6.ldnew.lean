/-! a text newly loaded: the relation holds -/
section LDN
variable {c p n m Mt : Nat} {b : Nat → Int} {z : Nat → Nat} {h0 m0 h4 h3 : ak_S}
theorem ak_Tok_0 : ak_Tok 1 (fun _ => []) 4 := ⟨⟨by decide, by decide, rfl⟩, fun s _ => ⟨Nat.zero_le _, fun x hx => (by cases hx)⟩, fun s h1 h2 => absurd h2 (by omega), fun s t h1 h2 _ => by omega⟩
def ak_FR0 : List Nat := (List.range 560).map (fun i => 559 - i)
theorem ak_FR0_get {i r : Nat} (h : ak_FR0[i]? = some r) : i < 560 ∧ r = 559 - i := by
  unfold ak_FR0 at h
  rw [List.getElem?_map] at h
  by_cases hi : i < 560
  · rw [List.getElem?_range hi] at h
    cases h
    exact ⟨hi, rfl⟩
  · rw [List.getElem?_eq_none (by rw [List.length_range]; omega)] at h
    cases h
theorem ak_FR0_nd : ak_FR0.Nodup := by
  unfold ak_FR0 List.Nodup
  rw [List.pairwise_map]
  refine List.Pairwise.imp_of_mem (R := fun a b => a < b) (fun {a b} ha hb h => ?_) List.pairwise_lt_range
  rw [List.mem_range] at ha hb
  omega
theorem ak_LD_new (hcc : c = 0 ∨ c = 1) (hp : p < 2) (tx : ak_tx c p n m Mt b z h0 m0) (hmn : h0.1 44 6 = m0.1 110 71 ∧ 0 ≤ m0.1 110 71 ∧ m0.1 110 71 ≤ 2) (hwy : ∃ w, ak_wyS m0 w)
    (lc : ak_ldC (am_up h0.1 3 1 0, h0.2) h4) (lm : ak_ldM (am_up (am_up m0.1 110 3 (m0.1 110 31)) 110 4 1, m0.2) h3) : ak_LD c p (am_up h4.1 1 8 1, h4.2) h3 := by
  have hT := ak_T_bd hcc
  obtain ⟨⟨c1, c2, c3, c4⟩, ⟨c5, c6, c7⟩, ⟨c8, c9, c10⟩, ⟨c11, c12⟩, cF, cJ, cS⟩ := lc
  obtain ⟨⟨m1, m2, m3, m4, m5⟩, ⟨m6, m7⟩, ⟨m8, m9, m10, m11⟩, ⟨m12, m13, m14, m15, m16, m17, m18⟩, mF, mJ, mS⟩ := lm
  have CF : ∀ q k, ¬ (q = 1 ∧ k = 8) → ¬ (q = 3 ∧ k = 1) → ¬ (q = 33 ∧ (k = 0 ∨ k = 4)) → ¬ (q = 44 ∧ (k = 4 ∨ k = 5)) → ¬ (q = 49 ∧ (k = 11 ∨ k = 14)) → ¬ (q = 34 ∨ q = 37 ∨ q = 38 ∨ q = 47 ∨ q = 60 ∨ q = 68) → ((am_up h4.1 1 8 1, h4.2) : ak_S).1 q k = h0.1 q k := fun q k g1 g2 g3 g4 g5 g6 => (ak_up_out g1).trans ((cF q k g3 g4 g5 g6).trans (ak_up_out g2))
  have C4 : ∀ q k, ¬ (q = 1 ∧ k = 8) → ((am_up h4.1 1 8 1, h4.2) : ak_S).1 q k = h4.1 q k := fun q k g => ak_up_out g
  have MF : ∀ q k, ¬ (q = 110 ∧ (k = 3 ∨ k = 4 ∨ k = 46 ∨ k = 53 ∨ k = 57 ∨ k = 67 ∨ k = 78 ∨ k = 84 ∨ k = 104 ∨ k = 106 ∨ (108 ≤ k ∧ k ≤ 111))) → ¬ (q = 141 ∨ q = 142 ∨ q = 147 ∨ (158 ≤ q ∧ q ≤ 163) ∨ (173 ≤ q ∧ q ≤ 175) ∨ q = 186) → h3.1 q k = m0.1 q k := fun q k g1 g2 => (mF q k (by omega) g2).trans ((ak_up_out (by omega)).trans (ak_up_out (by omega)))
  have u3 : h3.1 110 3 = (p : Int) := by
    rw [mF 110 3 (by omega) (by omega)]
    show am_up (am_up m0.1 110 3 (m0.1 110 31)) 110 4 1 110 3 = _
    rw [ak_up_out (by omega), ak_up_at]
    exact tx.1.2.1.1.1
  have hst := tx.1.2.2.2.2.2.1
  have i0 : ∀ q k, 158 ≤ q → q ≤ 163 → k < 150 → h3.1 q k = 0 := m8
  refine ⟨h0, m0, b, n, m, Mt, z, 1, 4, 0, fun _ => [], fun _ => 0, fun _ => [], [], [], fun r => r, fun r => r, fun _ => 0, fun _ => 0, [], ak_FR0, tx, ⟨fun q k g1 g2 => ⟨CF q k (by omega) (by omega) (by omega) (by omega) (by omega) (by omega), cJ q k (by omega)⟩, fun q k g => MF q k (by unfold ak_tmI at g; omega) (by unfold ak_tmI at g; omega)⟩, ⟨by decide, ?_⟩, ?_, ?_, ?_⟩
  · refine ⟨ak_Tok_0, ⟨(C4 33 4 (by omega)).trans c2, fun s hs => ⟨?_, ⟨fun k x hx => (by cases hx), fun t x ht he => ?_⟩⟩⟩, ⟨m2, fun s hs => ⟨?_, fun k x hx => (by cases hx)⟩⟩, ⟨by decide, (C4 33 0 (by omega)).trans c1, m1⟩, fun o ho => ⟨Nat.zero_lt_one, (C4 34 o (by omega)).trans (c4 o ho), (m5 o ho).2, ⟨(m5 o ho).1, fun k x hx => (by cases hx)⟩, fun k x hx => (by cases hx)⟩⟩
    · have : s = 0 := by omega
      subst this
      exact (C4 37 0 (by omega)).trans c3
    · exact absurd (congrArg List.length he) (by rw [List.length_append]; exact (by decide : ¬ (0 = 0 + 1)))
    · have : s = 0 := by omega
      subst this
      exact m3
  · refine ⟨⟨u3, hp, ?_, hst.1⟩, fun i hi => ⟨⟨Nat.zero_le _, fun _ => rfl, fun en he => (by cases he)⟩, ⟨fun k en he => (by cases he), fun k en he => (by cases he), (C4 47 _ (by omega)).trans (c5 _ (by omega)), i0 159 i (by omega) (by omega) hi⟩, ⟨?_, ?_⟩, ?_, ?_, ?_, ?_, ⟨fun en he => (by cases he), ?_, fun _ => rfl, fun _ => Nat.zero_le _⟩⟩, ⟨⟨Nat.zero_le _, fun en he => (by cases he)⟩, fun k en he => (by cases he), fun k en he => (by cases he), (C4 44 4 (by omega)).trans c6, m9⟩,
      ⟨⟨(C4 44 5 (by omega)).trans c7, fun j g hg => (by cases hg)⟩, ⟨m11, fun j g hg => (by cases hg)⟩, by decide⟩, ⟨?_, ?_⟩, ?_⟩
    · rw [MF 127 p (by omega) (by omega)]; exact hst.2.2.1
    · rw [C4 47 _ (by omega), c5 _ (by omega), i0 162 i (by omega) (by omega) hi]
    · rw [i0 162 i (by omega) (by omega) hi]; decide
    · rw [C4 47 _ (by omega), c5 _ (by omega), i0 158 i (by omega) (by omega) hi]
    · rw [C4 47 _ (by omega), c5 _ (by omega), i0 160 i (by omega) (by omega) hi]
    · rw [C4 47 _ (by omega), c5 _ (by omega), i0 161 i (by omega) (by omega) hi]
    · rw [C4 47 _ (by omega), c5 _ (by omega), i0 163 i (by omega) (by omega) hi]
    · rw [i0 158 i (by omega) (by omega) hi]; decide
    · rw [CF 44 6 (by omega) (by omega) (by omega) (by omega) (by omega) (by omega), MF 110 71 (by omega) (by omega)]; exact hmn.1
    · rw [MF 110 71 (by omega) (by omega)]; exact hmn.2
    · obtain ⟨w, hw⟩ := hwy
      exact ⟨w, ak_wyS_fr2 hw (fun q k g => MF q k (by omega) (by omega)), Or.inl m10⟩
  · refine ⟨⟨?_, fun i r hr => ?_, ?_, fun r => ?_, fun r hr => (by cases hr), fun r r' hr => (by cases hr), fun f hf => ⟨fun g => (by cases g), fun _ => (m6 f hf).1⟩⟩, fun r hr => (by cases hr), ⟨(C4 49 14 (by omega)).trans c8, m4, by decide, fun i hi => absurd hi (Nat.not_lt_zero _), fun r hr => (by cases hr)⟩⟩
    · rw [C4 49 11 (by omega), c9]
      unfold ak_FR0
      rw [List.length_map, List.length_range]
      rfl
    · obtain ⟨hi, hr2⟩ := ak_FR0_get hr
      rw [C4 60 i (by omega), c10 i hi, hr2]
      omega
    · rw [List.append_nil]
      exact ak_FR0_nd
    · rw [List.append_nil]
      unfold ak_FR0
      rw [List.mem_map]
      constructor
      · rintro ⟨a, _, rfl⟩; omega
      · intro hr
        exact ⟨559 - r, List.mem_range.mpr (by omega), by omega⟩
  · refine ⟨⟨?_, ?_, ?_, ?_, ?_, ?_, ?_⟩, ⟨?_, ?_, ?_, ?_⟩, fun i hi h => ?_, fun i hi h => ?_, fun i hi h => ?_, fun k hk => ?_⟩
    · exact (c11 0 (by decide)).trans m12.symm
    · exact (c11 1 (by decide)).trans m13.symm
    · exact (c11 2 (by decide)).trans m14.symm
    · exact (c11 3 (by decide)).trans m15.symm
    · exact (c11 4 (by decide)).trans m16.symm
    · exact (c11 5 (by decide)).trans m17.symm
    · exact (c11 6 (by decide)).trans m18.symm
    · rw [m14]; decide
    · rw [m16]; decide
    · rw [m17]; decide
    · rw [m18]; decide
    · rw [m17] at h; exact absurd h (by omega)
    · rw [m18] at h; exact absurd h (by omega)
    · rw [m16] at h; exact absurd h (by omega)
    · exact (C4 68 k (by omega)).trans ((c12 k hk).trans (m7 k hk).symm)
end LDN
