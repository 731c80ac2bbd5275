/-! the run: rooms of both, when one is taken or given back -/
section RMS
variable {s us O B Mt n r f : Nat} {φ hr lv mt φ' hr' lv' mt' : Nat → Nat} {Us Us' FR V V' : List Nat} {h0 m0 hc hm hc' hm' : ak_S}
/-- a room that stays -/
theorem ak_rom_upd {x : Nat} (w : ak_rom O B Mt φ hr lv mt Us V hc hm x) (hx : x ∈ Us) (ag : ∀ y, y ∈ Us → φ' y = φ y ∧ hr' y = hr y ∧ lv' y = lv y ∧ mt' y = mt y) (u1 : hr x ∈ Us') (u2 : ∀ y, y ∈ Us → hc.1 55 y = 1 → y ∈ Us') (v1 : x ∈ V' ↔ x ∈ V) (s1 : ∀ y, y ∈ Us → hc'.1 55 y = hc.1 55 y)
    (c50 : ∀ k, k < 12 → hc'.1 50 (12 * x + k) = hc.1 50 (12 * x + k) ∧ hc'.2.1 51 (12 * x + k) = hc.2.1 51 (12 * x + k)) (c52 : ∀ q, 52 ≤ q → q ≤ 59 → q ≠ 55 → hc'.1 q x = hc.1 q x ∧ hc'.2.1 q x = hc.2.1 q x)
    (m184 : ∀ k, k < 12 → hm'.1 184 (12 * φ x + k) = hm.1 184 (12 * φ x + k) ∧ hm'.2.1 185 (12 * φ x + k) = hm.2.1 185 (12 * φ x + k)) (m174 : ∀ q, 174 ≤ q → q ≤ 182 → hm'.1 q (φ x) = hm.1 q (φ x) ∧ hm'.2.1 q (φ x) = hm.2.1 q (φ x)) :
    ak_rom O B Mt φ' hr' lv' mt' Us' V' hc' hm' x := by
  obtain ⟨w1, ⟨w2, w3, w4, w5⟩, w6, w7, w8, w9, w10⟩ := w
  obtain ⟨a1, a2, a3, a4⟩ := ag x hx
  obtain ⟨b1, b2, b3, b4⟩ := ag (hr x) w2
  have c : ∀ q, 52 ≤ q → q ≤ 59 → q ≠ 55 → hc'.1 q x = hc.1 q x := fun q g1 g2 g3 => (c52 q g1 g2 g3).1
  have m : ∀ q, 174 ≤ q → q ≤ 182 → hm'.1 q (φ x) = hm.1 q (φ x) := fun q g1 g2 => (m174 q g1 g2).1
  unfold ak_rom
  rw [a1, a2, a3, a4, b1, b3, s1 x hx, c 53 (by omega) (by omega) (by omega), c 52 (by omega) (by omega) (by omega), c 54 (by omega) (by omega) (by omega), c 56 (by omega) (by omega) (by omega), c 58 (by omega) (by omega) (by omega), c 59 (by omega) (by omega) (by omega), (c52 57 (by omega) (by omega) (by omega)).2, m 178 (by omega) (by omega), m 177 (by omega) (by omega), m 174 (by omega) (by omega), m 175 (by omega) (by omega), m 179 (by omega) (by omega), m 180 (by omega) (by omega), (m174 181 (by omega) (by omega)).2, m 182 (by omega) (by omega), v1]
  refine ⟨fun k hk => ?_, ⟨u1, w3, w4, w5⟩, ?_, w7, w8, w9, w10⟩
  · rw [(c50 k hk).1, (c50 k hk).2, (m184 k hk).1, (m184 k hk).2]
    exact w1 k hk
  · rcases w6 with w6 | ⟨r', z1, z2, z3, z4, z5, z6, z7, z8⟩
    · exact Or.inl w6
    · obtain ⟨d1, d2, d3, d4⟩ := ag r' z1
      exact Or.inr ⟨r', u2 r' z1 z7, z2, by rw [d1]; exact z3, by rw [d2]; exact z4, by rw [d3]; exact z5, by rw [d4]; exact z6, (s1 r' z1).trans z7, (s1 _ w2).trans z8⟩
def ak_ud (g : Nat → Nat) (r v : Nat) : Nat → Nat := fun x => if x = r then v else g x
/-- a room taken -/
theorem ak_RM_take {ho l mm : Nat} (w : ak_RM s us O B Mt φ hr lv mt Us (FR ++ [r]) V h0 m0 hc hm) (hf : f < 564) (hz : hm.1 173 f = 0) (f1 : hc'.1 49 11 = (FR.length : Int)) (f2 : hm'.1 173 f = 1)
    (FC : ∀ q k, 49 ≤ q → q ≤ 62 → ¬ (q = 49 ∧ k = 11) → ¬ ((q = 50 ∨ q = 51) ∧ 12 * r ≤ k ∧ k < 12 * r + 12) → ¬ (52 ≤ q ∧ q ≤ 59 ∧ k = r) → hc'.1 q k = hc.1 q k ∧ hc'.2.1 q k = hc.2.1 q k)
    (FM : ∀ q k, (q = 110 ∧ k = 57) ∨ q = 150 ∨ q = 151 ∨ (173 ≤ q ∧ q ≤ 185) → ¬ ((q = 184 ∨ q = 185) ∧ 12 * f ≤ k ∧ k < 12 * f + 12) → ¬ (173 ≤ q ∧ q ≤ 183 ∧ k = f) → hm'.1 q k = hm.1 q k ∧ hm'.2.1 q k = hm.2.1 q k)
    (s55 : hc'.1 55 r = 0) (new : ak_rom O B Mt (ak_ud φ r f) (ak_ud hr r ho) (ak_ud lv r l) (ak_ud mt r mm) (r :: Us) (r :: V) hc' hm' r) :
    ak_RM s us O B Mt (ak_ud φ r f) (ak_ud hr r ho) (ak_ud lv r l) (ak_ud mt r mm) (r :: Us) FR (r :: V) h0 m0 hc' hm' := by
  obtain ⟨⟨w1, w2, w3, w4, w5, w6, w7⟩, wr, ⟨b1, b2, b3, b4, b5⟩⟩ := w
  have hr5 : r < 560 := (w4 r).mp (by simp)
  have nd := List.nodup_append.mp w3
  have rU : r ∉ Us := fun g => nd.2.2 r (by simp) r g rfl
  have ne : ∀ y, y ∈ Us → y ≠ r := fun y hy g => rU (g ▸ hy)
  have nf : ∀ y, y ∈ Us → φ y ≠ f := fun y hy g => by
    have := (w7 f hf).1 (List.mem_map.mpr ⟨y, hy, g⟩)
    rw [hz] at this
    exact absurd this (by decide)
  have ag : ∀ (g : Nat → Nat) (v : Nat) y, y ∈ Us → ak_ud g r v y = g y := fun g v y hy => if_neg (ne y hy)
  have agr : ∀ (g : Nat → Nat) (v : Nat), ak_ud g r v r = v := fun g v => if_pos rfl
  have hperm : ∀ y, y ∈ FR ++ (r :: Us) ↔ y ∈ (FR ++ [r]) ++ Us := fun y => by simp
  refine ⟨⟨f1, fun i y hy => ?_, ?_, fun y => (hperm y).trans (w4 y), fun y hy => ?_, fun y y' hy hy' he => ?_, fun g hg => ⟨fun hm1 => ?_, fun hm1 => ?_⟩⟩, fun y hy => ?_, ⟨(FC 49 14 (by omega) (by omega) (by omega) (by omega) (by omega)).1.trans b1, (FM 110 57 (by omega) (by omega) (by omega)).1.trans b2, b3, fun i hi => ?_, fun y hy hs => ?_⟩⟩
  · have hlt : i < FR.length := by
      rcases Nat.lt_or_ge i FR.length with g | g
      · exact g
      · rw [List.getElem?_eq_none g] at hy; cases hy
    rw [(FC 60 i (by omega) (by omega) (by omega) (by omega) (by omega)).1]
    exact w2 i y (by rw [List.getElem?_append_left hlt]; exact hy)
  · have e : FR ++ (r :: Us) = (FR ++ [r]) ++ Us := by simp
    rw [e]; exact w3
  · rcases List.mem_cons.mp hy with rfl | hy
    · rw [agr]; exact hf
    · rw [ag _ _ _ hy]; exact w5 y hy
  · rcases List.mem_cons.mp hy with e1 | q1 <;> rcases List.mem_cons.mp hy' with e2 | q2
    · rw [e1, e2]
    · rw [e1, agr, ag _ _ _ q2] at he
      exact absurd he.symm (nf y' q2)
    · rw [e2, agr, ag _ _ _ q1] at he
      exact absurd he (nf y q1)
    · rw [ag _ _ _ q1, ag _ _ _ q2] at he
      exact w6 y y' q1 q2 he
  · by_cases hgf : g = f
    · rw [hgf]; exact f2
    · rw [(FM 173 g (by omega) (by omega) (by omega)).1]
      refine (w7 g hg).1 ?_
      obtain ⟨y, hy, he⟩ := List.mem_map.mp hm1
      rcases List.mem_cons.mp hy with rfl | hy
      · rw [agr] at he; exact absurd he.symm hgf
      · rw [ag _ _ _ hy] at he
        exact List.mem_map.mpr ⟨y, hy, he⟩
  · have hgf : g ≠ f := fun z => hm1 (List.mem_map.mpr ⟨r, List.mem_cons_self, by rw [agr, z]⟩)
    rw [(FM 173 g (by omega) (by omega) (by omega)).1]
    refine (w7 g hg).2 (fun z => hm1 ?_)
    obtain ⟨y, hy, he⟩ := List.mem_map.mp z
    exact List.mem_map.mpr ⟨y, List.mem_cons_of_mem _ hy, by rw [ag _ _ _ hy]; exact he⟩
  · rcases List.mem_cons.mp hy with rfl | hy
    · exact new
    · have y5 : y < 560 := (w4 y).mp (List.mem_append_right _ hy)
      have n1 := ne y hy
      have n2 := nf y hy
      refine ak_rom_upd (wr y hy) hy (fun z hz => ⟨ag _ _ _ hz, ag _ _ _ hz, ag _ _ _ hz, ag _ _ _ hz⟩) (List.mem_cons_of_mem _ (wr y hy).2.1.1) (fun z hz _ => List.mem_cons_of_mem _ hz) ⟨fun g => (List.mem_cons.mp g).elim (fun z => absurd z n1) (fun z => z), fun g => List.mem_cons_of_mem _ g⟩ (fun z hz => (FC 55 z (by omega) (by omega) (by omega) (by omega) (fun g => ne z hz g.2.2)).1) (fun k hk => ⟨(FC 50 _ (by omega) (by omega) (by omega) (by omega) (by omega)).1, (FC 51 _ (by omega) (by omega) (by omega) (by omega) (by omega)).2⟩) (fun q g1 g2 _ => FC q y (by omega) (by omega) (by omega) (by omega) (fun g => n1 g.2.2)) (fun k hk => ⟨(FM 184 _ (by omega) (by omega) (by omega)).1, (FM 185 _ (by omega) (by omega) (by omega)).2⟩) (fun q g1 g2 => FM q (φ y) (by omega) (by omega) (fun g => n2 g.2.2))
  · obtain ⟨l', r', z1, z2, z3, z4, z5, z6, z7, z8⟩ := b4 i hi
    refine ⟨l', r', (FC 61 i (by omega) (by omega) (by omega) (by omega) (by omega)).1.trans z1, (FM 150 i (by omega) (by omega) (by omega)).1.trans z2, z3, (FC 62 i (by omega) (by omega) (by omega) (by omega) (by omega)).1.trans z4, List.mem_cons_of_mem _ z5, ?_, ?_, ?_⟩
    · rw [(FM 151 i (by omega) (by omega) (by omega)).1, ag _ _ _ z5]; exact z6
    · rw [(FC 55 r' (by omega) (by omega) (by omega) (by omega) (fun g => ne r' z5 g.2.2)).1]; exact z7
    · unfold ak_blk at z8 ⊢
      rw [ag _ _ _ z5, ag _ _ _ z5]
      exact z8
  · rcases List.mem_cons.mp hy with rfl | hy
    · rw [s55] at hs; exact absurd hs (by decide)
    · rw [(FC 55 y (by omega) (by omega) (by omega) (by omega) (fun g => ne y hy g.2.2)).1] at hs
      obtain ⟨i, z1, z2⟩ := b5 y hy hs
      exact ⟨i, z1, (FC 62 i (by omega) (by omega) (by omega) (by omega) (by omega)).1.trans z2⟩
end RMS
