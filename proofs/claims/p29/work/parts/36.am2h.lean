section AM2H
variable {ro2 ro : Nat → Option (Nat × Nat)} {B : am2_B} {bI bJ : Nat → Nat → Int} {bR : Nat → Nat → Nat} {fty : Nat → Nat → Nat} {nf : Nat → Nat}
theorem am2_hp_rp (hro : ∀ q x, ro2 q = some x → ro q = some x) (hI : ∀ p k v, B.1 p k = some v → bI p k = v) (hR : ∀ p k v, B.2 p k = some v → bR p k = v) {ins : Instr} {a b : Nat} {z : Int} {st st' : List am_V} {h h' : am2_H} (hp : am2_hp ro2 B fty nf ins a b z st h = some (st', h')) :
    am_hp ro fty nf ins a b z st (am2_rp bI bJ bR h) = some (st', am2_rp bI bJ bR h') := by
  unfold am2_hp at hp
  split at hp
  · split at hp
    · split at hp
      · rename_i c n hk
        split at hp
        · rename_i hc
          obtain ⟨v, h1, h2⟩ := Option.map_eq_some_iff.mp hp
          cases h2
          have hk2 := am2_kind_rp (bI := bI) (bJ := bJ) (bR := bR) hro hk
          have hv := am2_fv_rp (bI := bI) (bJ := bJ) (bR := bR) hI hR h1
          unfold am_hp
          dsimp only
          rw [hk2]
          dsimp only
          rw [if_pos hc, hv]
        · cases hp
      · cases hp
    · cases hp
  · split at hp
    · split at hp
      · rename_i c n hk
        have hk2 := am2_kind_rp (bI := bI) (bJ := bJ) (bR := bR) hro hk
        split at hp
        · rename_i hc
          split at hp
          · split at hp
            · rename_i hc2
              cases hp
              unfold am_hp
              dsimp only
              rw [hk2]
              dsimp only
              rw [if_pos hc, if_pos hc2]
              rfl
            · cases hp
          · split at hp
            · rename_i hc2
              cases hp
              unfold am_hp
              dsimp only
              rw [hk2]
              dsimp only
              rw [if_pos hc, if_pos hc2]
              rfl
            · cases hp
          · split at hp
            · rename_i hc2
              cases hp
              unfold am_hp
              dsimp only
              rw [hk2]
              dsimp only
              rw [if_pos hc, if_pos hc2]
              rfl
            · cases hp
        · cases hp
      · cases hp
    · cases hp
  · split at hp
    · split at hp
      · rename_i c n hk
        have hk2 := am2_kind_rp (bI := bI) (bJ := bJ) (bR := bR) hro hk
        split at hp
        · rename_i hc
          obtain ⟨v, h1, h2⟩ := Option.map_eq_some_iff.mp hp
          cases h2
          have hv := am2_rd_it (b := bI) hI _ _ _ _ h1
          unfold am_hp
          dsimp only
          rw [hk2]
          dsimp only
          rw [if_pos hc]
          show some (Sum.inl (am2_it bI 0 h.2.1 _ _) :: _, am2_rp bI bJ bR h) = _
          rw [hv]
        · cases hp
      · cases hp
    · cases hp
  · split at hp
    · split at hp
      · rename_i c n hk
        have hk2 := am2_kind_rp (bI := bI) (bJ := bJ) (bR := bR) hro hk
        split at hp
        · rename_i hc
          obtain ⟨v, h1, h2⟩ := Option.map_eq_some_iff.mp hp
          cases h2
          have hv := am2_rd_it (b := bJ) (fun _ _ _ h => by cases h) _ _ _ _ h1
          unfold am_hp
          dsimp only
          rw [hk2]
          dsimp only
          rw [if_pos hc]
          show some (Sum.inr (Sum.inl (am2_it bJ 0 h.2.2.1 _ _)) :: _, am2_rp bI bJ bR h) = _
          rw [hv]
        · cases hp
      · cases hp
    · cases hp
  · split at hp
    · split at hp
      · rename_i c n hk
        have hk2 := am2_kind_rp (bI := bI) (bJ := bJ) (bR := bR) hro hk
        split at hp
        · rename_i hc
          obtain ⟨v, h1, h2⟩ := Option.map_eq_some_iff.mp hp
          cases h2
          have hv := am2_rd_it (b := bI) hI _ _ _ _ h1
          unfold am_hp
          dsimp only
          rw [hk2]
          dsimp only
          rw [if_pos hc]
          show some (Sum.inl (am2_it bI 0 h.2.1 _ _) :: _, am2_rp bI bJ bR h) = _
          rw [hv]
        · cases hp
      · cases hp
    · cases hp
  · split at hp
    · split at hp
      · rename_i c n hk
        have hk2 := am2_kind_rp (bI := bI) (bJ := bJ) (bR := bR) hro hk
        split at hp
        · rename_i hc
          cases hp
          unfold am_hp
          dsimp only
          rw [hk2]
          dsimp only
          rw [if_pos hc]
          rfl
        · cases hp
      · cases hp
    · cases hp
  · split at hp
    · split at hp
      · rename_i c n hk
        have hk2 := am2_kind_rp (bI := bI) (bJ := bJ) (bR := bR) hro hk
        split at hp
        · rename_i hc
          cases hp
          unfold am_hp
          dsimp only
          rw [hk2]
          dsimp only
          rw [if_pos hc]
          rfl
        · cases hp
      · cases hp
    · cases hp
  · split at hp
    · split at hp
      · rename_i c n hk
        have hk2 := am2_kind_rp (bI := bI) (bJ := bJ) (bR := bR) hro hk
        split at hp
        · rename_i hc
          cases hp
          unfold am_hp
          dsimp only
          rw [hk2]
          dsimp only
          rw [if_pos hc]
        · cases hp
      · cases hp
    · cases hp
  · split at hp
    · rename_i hc
      cases hp
      exact if_pos hc
    · cases hp
  · split at hp
    · split at hp
      · rename_i hc
        split at hp
        all_goals first
          | cases hp
            exact if_pos hc
          | cases hp
      · cases hp
    · cases hp
  · split at hp
    · rename_i hb
      split at hp
      · rename_i hc
        cases hp
        unfold am_hp
        dsimp only
        rw [if_pos hb, if_pos hc]
      · cases hp
    · rename_i hb
      cases hp
      unfold am_hp
      dsimp only
      rw [if_neg hb]
  · split at hp
    · rename_i hc
      cases hp
      exact if_pos hc
    · cases hp
  · split at hp
    · rename_i hc
      cases hp
      exact if_pos hc
    · cases hp
  · split at hp
    · rename_i hb
      cases hp
      exact if_pos hb
    · rename_i hb
      cases hp
      exact if_neg hb
  · cases hp
end AM2H
